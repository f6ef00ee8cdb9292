/-! A MICROSECOND: frames are sent, a bit passes, the cores work, time goes on -/
theorem st_m1 {fu C S F W R X T t E : Nat} {d : Nat → Nat → Nat} {tu : Nat → Bool} {g : Nat → Nat → Nat} {own Sb bd : Nat → Nat} {si : Nat → Bool} {p : PB} {o : Nat → Nat → Nat} {e ec tc fl : Nat → Nat} {A M : mwM} {Lc Lm : mwL} (hfu : 5000 ≤ fu) (ht : t < 20000) (hZ : CAR A M Lc Lm C S F W R X T t E d tu g own Sb bd si p o e ec tc fl) : ∃ (A' M' : mwM) (Lm' : mwL) (ec' tc' : Nat → Nat) (mk fr : Nat), DX1_passMicrosecond fu A Lc = (if (A' 20 12) = 0 then fX1_passMicrosecond_b54 fu A' Lc else mb2 (DX1_takeFrames fu A' Lc) (fun M23 L24 => fX1_passMicrosecond_b54 fu M23 L24)) ∧ DX19_microsecond fu M Lm = fX19_microsecond_h118 fu fu (0, M', Lm') ∧ mk < 128 ∧ LkZ A' M' Lc Lm' C S F W R X (t + 1) E d tu g own Sb bd p o e ec' tc tc' fl mk 0 ∧ SlW A' M' C S F W X T (t + 1) d tu g si ∧ RCo A' M' Lm' T C (t + 1) ∧ TsR A' M' Lm' T X fr ∧ (∀ x, x < X → CxR A' M' Lc Lm' (t + 1) x) ∧ (∀ i, i < T → A' 17 i = if fr.testBit i = true then M' 748 i + 1 else M' 748 i) ∧ A' 292 0 = M' 939 0 ∧ A' 292 4 = M' 939 4 ∧ kpM X M M' ∧ kpL X Lm Lm' ∧ kpA A A' := by
  obtain ⟨hTk, hTr, hp, hBu, hSl, hCo, hCx, h17, h924, h0, h4, hE, hbd⟩ := hZ
  obtain ⟨kS, kO, kR, kQ, kW, kT, kC, kK, kN, k1, k2, k16, k83, kt⟩ := id hTk
  obtain ⟨w1, w2, w3, w4, w5, w6, w7, w8, w9, w10, w11, w12, w13⟩ := id hSl
  have hN := hTr.2.2.2.1
  have hv := hTr.1
  have hob := hN.2.2.2.2.2.1
  have hob2 : (obL p.1 p.2).length < 6001 := by
    have := ob_len (n := p.1) (b := p.2)
    have := Tf_F hv
    have := hv.1.2.1
    omega
  obtain ⟨A1, M1, s1, s2, s3, s4, s5, s6, s7, s8, s9, s10, s11⟩ := st_sendFrames (fu := fu) (Lc := Lc) (Lm := Lm) (by omega) ht kS w1 (fun s hs => by
    obtain ⟨_, _, _, _, _, q⟩ := kQ (d 4 s) (w5 s hs)
    rw [q]) w2 w3 kC kK hBu (fun f hf => by have := w4 f hf; omega) h0 hob hob2 w6 k83
  obtain ⟨Fb, ow, idb, ocb, dnb, asl, hBR⟩ := s8
  obtain ⟨A2, M2, x2, dn', ec', tc', asl', mk, b1, b2, b3, b4, b5, b6, b7⟩ := st_bit (fu := fu) (Lc := Lc) (Lm := Lm) (by omega) ht hBR
  have fA2 : ∀ a y, a ≠ 77 → a ≠ 79 → ¬ (95 ≤ a ∧ a ≤ 96) → ¬ (137 ≤ a ∧ a ≤ 138) → ¬ (20 ≤ a ∧ a ≤ 60) → ¬ (a = 292 ∧ y = 0) → ¬ (a = 61 ∧ y = 14) → A2 a y = A a y := fun a y u1 u2 u3 u4 u5 u6 u7 => by rw [b6 a y u5, s10 a y u1 u2 u3 u4 u5 u6 u7]
  have fM2 : ∀ a y, a ≠ 785 → a ≠ 926 → ¬ (a = 854 ∧ (y = 0 ∨ y = 6 ∨ y = 7)) → a ≠ 858 → a ≠ 859 → ¬ (863 ≤ a ∧ a ≤ 867) → ¬ (821 ≤ a ∧ a ≤ 853) → ¬ (a = 939 ∧ y = 0) → ¬ (941 ≤ a ∧ (((a - 941) % 53 = 0 ∧ y = 0) ∨ (a - 941) % 53 = 15 ∨ ((a - 941) % 53 = 23 ∧ y = 0))) → M2 a y = M a y := fun a y u1 u2 u3 u4 u5 u6 u7 u8 u9 => by rw [b7 a y u7, s11 a y u1 u2 u3 u4 u5 u6 u7 u8 u9]
  have hCo2 : RCo A2 M2 Lm T C t := RCo_w hCo (fun a y u1 u2 => fA2 a y (by omega) (by omega) (by omega) (by omega) (by omega) (by omega) (by omega)) (fun a y u1 u2 => fM2 a y (by omega) (by omega) (by omega) (by omega) (by omega) (by omega) (by omega) (by omega) (by omega)) (fun _ _ _ _ => rfl)
  have hT12 : T ≤ 12 := by
    obtain ⟨_, _, _, _, q, _⟩ := hCo
    exact q.1
  have h787 : M2 787 1 = sI T := by
    obtain ⟨_, _, _, _, q, _⟩ := hCo2
    exact q.2.2.2.2.2.1
  have h24 : M2 732 24 = sI T := by rw [fM2 _ _ (by omega) (by omega) (by omega) (by omega) (by omega) (by omega) (by omega) (by omega) (by omega)]; exact w11
  obtain ⟨L2, f1, f2, f3⟩ := m_before (fu := fu) (L := Lm) (by omega) hT12 h24 h787
  have hCo3 : RCo A2 M2 L2 T C t := RCo_w hCo2 (fun _ _ _ _ => rfl) (fun _ _ _ _ => rfl) (fun a y u1 u2 => f3 a y (by omega))
  obtain ⟨A3, c1, ⟨⟨r3, M3, L3⟩, c2, c3, ⟨fr, c4, c5, c6⟩, c7, c8, c9⟩⟩ := st_cores (fu := fu) (Lc := Lc) (by omega) ht hCo3
  dsimp only at c3 c6 c8 c9
  have a16 : A3 3 16 = sI t := by rw [c7 _ _ (by omega) (by omega), fA2 _ _ (by omega) (by omega) (by omega) (by omega) (by omega) (by omega) (by omega)]; exact k16
  have m83 : M3 732 83 = sI t := by rw [c8 _ _ (by omega), fM2 _ _ (by omega) (by omega) (by omega) (by omega) (by omega) (by omega) (by omega) (by omega) (by omega)]; exact k83
  generalize hA4 : mset A3 3 16 (sI (t + 1)) = A4
  generalize hM4 : mset M3 732 83 (sI (t + 1)) = M4
  have tA4 : ∀ a y, ¬ (a = 3 ∧ y = 16) → A4 a y = A3 a y := fun a y u => by rw [← hA4, mset_n u]
  have tM4 : ∀ a y, ¬ (a = 732 ∧ y = 83) → M4 a y = M3 a y := fun a y u => by rw [← hM4, mset_n u]
  -- frames behind the bit
  have gA : ∀ a y, a ≠ 5 → ¬ (11 ≤ a ∧ a ≤ 19) → ¬ (a = 3 ∧ y = 16) → A4 a y = A2 a y := fun a y u1 u2 u3 => by rw [tA4 a y u3, c7 a y u1 u2]
  have gM : ∀ a y, (a < 787 ∨ 820 < a) → ¬ (a = 732 ∧ y = 83) → M4 a y = M2 a y := fun a y u1 u2 => by rw [tM4 a y u2, c8 a y u1]
  have gL : ∀ a y, (a < 787 ∨ 820 < a) → a ≠ 925 → L3 a y = Lm a y := fun a y u1 u2 => by rw [c9 a y u1, f3 a y u2]
  have fA : ∀ a y, a ≠ 5 → ¬ (11 ≤ a ∧ a ≤ 60) → ¬ (a = 3 ∧ y = 16) → a ≠ 77 → a ≠ 79 → ¬ (95 ≤ a ∧ a ≤ 96) → ¬ (137 ≤ a ∧ a ≤ 138) → ¬ (a = 292 ∧ y = 0) → ¬ (a = 61 ∧ y = 14) → A4 a y = A a y := fun a y u1 u2 u3 u4 u5 u6 u7 u8 u9 => by rw [gA a y u1 (by omega) u3, fA2 a y u4 u5 u6 u7 (by omega) u8 u9]
  have fM : ∀ a y, ¬ (785 ≤ a ∧ a ≤ 853) → ¬ (a = 732 ∧ y = 83) → a ≠ 926 → ¬ (a = 854 ∧ (y = 0 ∨ y = 6 ∨ y = 7)) → a ≠ 858 → a ≠ 859 → ¬ (863 ≤ a ∧ a ≤ 867) → ¬ (a = 939 ∧ y = 0) → ¬ (941 ≤ a ∧ (((a - 941) % 53 = 0 ∧ y = 0) ∨ (a - 941) % 53 = 15 ∨ ((a - 941) % 53 = 23 ∧ y = 0))) → M4 a y = M a y := fun a y u1 u2 u3 u4 u5 u6 u7 u8 u9 => by rw [gM a y (by omega) u2, fM2 a y (by omega) u3 u4 u5 u6 u7 (by omega) u8 u9]
  have gA1 : ∀ a y, a ≠ 5 → ¬ (11 ≤ a ∧ a ≤ 60) → ¬ (a = 3 ∧ y = 16) → A4 a y = A1 a y := fun a y u1 u2 u3 => by rw [gA a y u1 (by omega) u3, b6 a y (by omega)]
  have gM1 : ∀ a y, ¬ (787 ≤ a ∧ a ≤ 853) → ¬ (a = 732 ∧ y = 83) → M4 a y = M1 a y := fun a y u1 u2 => by rw [gM a y (by omega) u2, b7 a y (by omega)]
  have hCo4 : RCo A4 M4 L3 T C (t + 1) := RCo_w c3 (fun a y u1 u2 => tA4 a y (by omega)) (fun a y u1 u2 => tM4 a y (by omega)) (fun _ _ _ _ => rfl)
  refine ⟨A4, M4, L3, ec', tc', mk, fr, ?_, ?_, b4, ⟨?_, ?_, ?_, ?_, ?_, ?_, ?_⟩, ?_, hCo4, ?_, ?_, ?_, ?_, ?_, fun a y u => fM a y (by omega) (by omega) (by omega) (by omega) (by omega) (by omega) (by omega) (by omega) (by omega), fun a y u1 u2 u3 => gL a y (by omega) (by omega), fun a y u => fA a y (by omega) (by omega) (by omega) (by omega) (by omega) (by omega) (by omega) (by omega) (by omega)⟩
  · unfold DX1_passMicrosecond
    rw [k16, s1, mb2_s, show A1 3 16 = sI t by rw [s10 _ _ (by omega) (by omega) (by omega) (by omega) (by omega) (by omega) (by omega)]; exact k16, b1, mb2_s, show A2 3 16 = sI t by rw [fA2 _ _ (by omega) (by omega) (by omega) (by omega) (by omega) (by omega) (by omega)]; exact k16, c1, mb2_s, mlet_e, a16, sI_1, hA4]
  · unfold DX19_microsecond
    rw [s2]
    unfold fX19_microsecond_b56
    rw [b2, mb3_s, f1, c2, mb3_s, mlet_e, m83, sI_1, hM4]
  · refine TkB_g hTk (FrS_f s3 (fun a y u => gA1 a y (by omega) (by omega) (by omega)) (fun a y u => gM1 a y (by omega) (by omega))) (fun x hx => QdR_f (kQ x hx) (fun a y u => fA a y (by omega) (by omega) (by omega) (by omega) (by omega) (by omega) (by omega) (by omega) (by omega)) (fun a y u => fM a y (by omega) (by omega) (by omega) (by omega) (by omega) (by omega) (by omega) (by omega) (by omega)) (fun _ => rfl) (fun y => gL _ y (by omega) (by omega))) (WtR_f kW (fun a y u => fA a y (by omega) (by omega) (by omega) (by omega) (by omega) (by omega) (by omega) (by omega) (by omega)) (fun a y u => fM a y (by omega) (by omega) (by omega) (by omega) (by omega) (by omega) (by omega) (by omega) (by omega)) (fun y => gL _ y (by omega) (by omega))) (RTr_fr kT (fun a y u1 u2 => fA a y (by omega) (by omega) (by omega) (by omega) (by omega) (by omega) (by omega) (by omega) (by omega)) (fun a y u1 u2 u3 => fM a y (by omega) (by omega) (by omega) (by omega) (by omega) (by omega) (by omega) (by omega) (by omega))) (RCd_fr s7 (fun a y u1 u2 => gA1 a y (by omega) (by omega) (by omega)) (fun a y u => gM1 a y (by omega) (by omega))) (fun a y u => fA a y (by omega) (by omega) (by omega) (by omega) (by omega) (by omega) (by omega) (by omega) (by omega)) (fun a y u => fM a y (by omega) (by omega) (by omega) (by omega) (by omega) (by omega) (by omega) (by omega) (by omega)) (fun _ => rfl) (fun a y u => gL a y (by omega) (by omega)) (by rw [← hA4, mset_s]) (by rw [← hM4, mset_s]) (by omega)
  · exact TrB_f hTr (fun a y u => fA a y (by omega) (by omega) (by omega) (by omega) (by omega) (by omega) (by omega) (by omega) (by omega)) (fun a y u => fM a y (by omega) (by omega) (by omega) (by omega) (by omega) (by omega) (by omega) (by omega) (by omega)) (fun a y u1 u2 => gL a y (by omega) (by omega))
  · exact BusE_fr ⟨_, _, _, _, _, _, b3⟩ (fun a y u1 u2 => gA a y (by omega) (by omega) (by omega)) (fun a y u1 u2 u3 => gM a y (by omega) (by omega))
  · exact FrE_f b5 (fun a y u => gA a y (by omega) (by omega) (by omega)) (fun a y u1 u2 => gM a y (by omega) (by omega))
  · rw [fM _ _ (by omega) (by omega) (by omega) (by omega) (by omega) (by omega) (by omega) (by omega) (by omega)]; exact w8
  · rw [fA _ _ (by omega) (by omega) (by omega) (by omega) (by omega) (by omega) (by omega) (by omega) (by omega)]; exact w9
  · intro k hk
    rw [if_neg (by omega), fM _ _ (by omega) (by omega) (by omega) (by omega) (by omega) (by omega) (by omega) (by omega) (by omega)]
    exact h924 k hk
  · have hS1 : SlW A1 M1 C S F W X T (t + 1) d tu g si := by
      refine ⟨s4, s5, s6, w4, w5, fun c hc => ?_, fun w hw => ?_, ?_, ?_, w10, ?_, fun i hi => ?_, fun i hi => ?_⟩
      · rw [s10 _ _ (by omega) (by omega) (by omega) (by omega) (by omega) (by omega) (by omega), s11 _ _ (by omega) (by omega) (by omega) (by omega) (by omega) (by omega) (by omega) (by omega) (by omega)]
        exact w6 c hc
      · rw [s10 _ _ (by omega) (by omega) (by omega) (by omega) (by omega) (by omega) (by omega)]
        exact w7 w hw
      · rw [s11 _ _ (by omega) (by omega) (by omega) (by omega) (by omega) (by omega) (by omega) (by omega) (by omega)]
        exact w8
      · rw [s10 _ _ (by omega) (by omega) (by omega) (by omega) (by omega) (by omega) (by omega)]
        exact w9
      · rw [s11 _ _ (by omega) (by omega) (by omega) (by omega) (by omega) (by omega) (by omega) (by omega) (by omega)]
        exact w11
      · rw [s10 _ _ (by omega) (by omega) (by omega) (by omega) (by omega) (by omega) (by omega), s11 _ _ (by omega) (by omega) (by omega) (by omega) (by omega) (by omega) (by omega) (by omega) (by omega)]
        exact w12 i hi
      · rw [s10 _ _ (by omega) (by omega) (by omega) (by omega) (by omega) (by omega) (by omega), s11 _ _ (by omega) (by omega) (by omega) (by omega) (by omega) (by omega) (by omega) (by omega) (by omega)]
        exact w13 i hi
    exact SlW_f hS1 (fun a y u => gA1 a y (by omega) (by omega) (by omega)) (fun a y u => gM1 a y (by omega) (by omega))
  · refine ⟨hT12, kO.1, c4, by rw [tA4 _ _ (by omega)]; exact c5, by rw [gM _ _ (by omega) (by omega)]; exact h24, ?_, fun i hi => ⟨?_, ?_⟩⟩
    · obtain ⟨_, _, _, _, q, _⟩ := hCo4
      exact q.2.2.2.2.2.1
    · rw [fA _ _ (by omega) (by omega) (by omega) (by omega) (by omega) (by omega) (by omega) (by omega) (by omega), fM _ _ (by omega) (by omega) (by omega) (by omega) (by omega) (by omega) (by omega) (by omega) (by omega)]
      exact w12 i hi
    · obtain ⟨us, us', mi, dn, i1, i2, i3, i4, i5, i6, i7, _⟩ := c6 i hi
      refine ⟨us, us', mi, ?_, i6, ?_, i2, i3, i4, i7⟩
      · rw [fM _ _ (by omega) (by omega) (by omega) (by omega) (by omega) (by omega) (by omega) (by omega) (by omega), ← w13 i hi, ← fA2 _ _ (by omega) (by omega) (by omega) (by omega) (by omega) (by omega) (by omega)]
        exact i5
      · rw [c9 _ _ (by omega), f2 i hi, ← f3 805 _ (by omega)]
        exact i1
  · intro x hx
    exact CxR_f (hCx x hx) (by omega) (fun a y u1 u2 u3 => fA a y (by omega) (by omega) (by omega) (by omega) (by omega) (by omega) (by omega) (by omega) (by omega)) (fun a y u1 u2 u3 => fM a y (by omega) (by omega) (by omega) (by omega) (by omega) (by omega) (by omega) (by omega) (by omega)) (fM _ _ (by omega) (by omega) (by omega) (by omega) (by omega) (by omega) (by omega) (by omega) (by omega)) (fun a u1 u2 => by
      funext y
      exact gL a y (by omega) (by omega)) (by
      have q : L3 (964 + 53 * x + 21) = Lm (964 + 53 * x + 21) := by
        funext y
        exact gL _ y (by omega) (by omega)
      rw [q]
      obtain ⟨_, _, _, _, _, z⟩ := kQ x hx
      exact z)
  · intro i hi
    obtain ⟨us, us', mi, dn, i1, i2, i3, i4, i5, i6, i7, i8, i9, i10⟩ := c6 i hi
    rw [tA4 _ _ (by omega), i10, fM _ _ (by omega) (by omega) (by omega) (by omega) (by omega) (by omega) (by omega) (by omega) (by omega), ← h17 i hi, ← fA2 17 i (by omega) (by omega) (by omega) (by omega) (by omega) (by omega) (by omega), i8, sI_1]
    split <;> rfl
  · rw [gA1 _ _ (by omega) (by omega) (by omega), gM1 _ _ (by omega) (by omega)]
    exact s9
  · rw [fA _ _ (by omega) (by omega) (by omega) (by omega) (by omega) (by omega) (by omega) (by omega) (by omega), fM _ _ (by omega) (by omega) (by omega) (by omega) (by omega) (by omega) (by omega) (by omega) (by omega)]
    exact h4
/-! A MICROSECOND, whole -/
theorem st_second {fu C S F W R X T t E : Nat} {d : Nat → Nat → Nat} {tu : Nat → Bool} {g : Nat → Nat → Nat} {own Sb bd : Nat → Nat} {si : Nat → Bool} {p : PB} {o : Nat → Nat → Nat} {e ec tc fl : Nat → Nat} {A M : mwM} {Lc Lm : mwL} (hfu : 5000 ≤ fu) (ht : t < 20000) (hZ : CAR A M Lc Lm C S F W R X T t E d tu g own Sb bd si p o e ec tc fl) : ∃ (A' M' : mwM) (Lc' Lm' : mwL) (E' : Nat) (bd' : Nat → Nat) (p' : PB) (o' : Nat → Nat → Nat) (e' ec' tc' : Nat → Nat), DX1_passMicrosecond fu A Lc = some (A', Lc') ∧ DX19_microsecond fu M Lm = some (M', Lm') ∧ CAR A' M' Lc' Lm' C S F W R X T (t + 1) E' d tu g own Sb bd' si p' o' e' ec' tc' fl ∧ kpM X M M' ∧ kpC X Lc Lc' ∧ kpL X Lm Lm' ∧ kpA A A' := by
  have hE := hZ.2.2.2.2.2.2.2.2.2.2.2.1
  have hbd := hZ.2.2.2.2.2.2.2.2.2.2.2.2
  have hp := hZ.2.2.1
  obtain ⟨A1, M1, L1, ec', tc', mk, fr, z1, z2, z3, hLk, hSl, hCo, hTs, hCx, h17, h0, h4, kM, kL, kA⟩ := st_m1 hfu ht hZ
  have hC6 : C ≤ 6 := hSl.2.2.2.2.2.2.2.2.2.1
  -- the nodes look
  obtain ⟨A2, Lc2, M2, L2, E2, p2, o2, e2, y1, y2, hLk2, y3, y4, y5, lA, lM, lC, lL⟩ := st_looks (fu := fu) hfu hC6 z3 (by omega) (fun c hc => by have := hbd c hc; omega) hLk
  obtain ⟨hTk2, hTr2, hBu2, hFr2, h19, h13, h924⟩ := hLk2
  obtain ⟨kS, kO, kR, kQ, kW, kT, kC, kK, kN, k1, k2, k16, k83, kt⟩ := id hTk2
  have hSl2 : SlW A2 M2 C S F W X T (t + 1) d tu g si := SlW_f hSl (fun a y u => lA a y (by omega) (by omega) (by omega) (by omega) (by omega) (by omega) (by omega) (by omega) (by omega) (by omega) (by omega)) (fun a y u => lM a y (by omega) (by omega) (by omega) (by omega) (by omega) (by omega) (by omega) (by omega) (by omega) (by omega) (by omega) (by omega) (by omega))
  have hCo2 : RCo A2 M2 L2 T C (t + 1) := RCo_w hCo (fun a y u1 u2 => lA a y (by omega) (by omega) (by omega) (by omega) (by omega) (by omega) (by omega) (by omega) (by omega) (by omega) (by omega)) (fun a y u1 u2 => lM a y (by omega) (by omega) (by omega) (by omega) (by omega) (by omega) (by omega) (by omega) (by omega) (by omega) (by omega) (by omega) (by omega)) (fun a y u1 u2 => lL a y (by omega) (by omega) (by omega) (by omega) (by omega))
  have hTs2 : TsR A2 M2 L2 T X fr := TsR_f hTs (fun a y u => lA a y (by omega) (by omega) (by omega) (by omega) (by omega) (by omega) (by omega) (by omega) (by omega) (by omega) (by omega)) (fun a y u => lM a y (by omega) (by omega) (by omega) (by omega) (by omega) (by omega) (by omega) (by omega) (by omega) (by omega) (by omega) (by omega) (by omega)) (fun a y u => lL a y (by omega) (by omega) (by omega) (by omega) (by omega))
  have hCx2 : ∀ x, x < X → CxR A2 M2 Lc2 L2 (t + 1) x := fun x hx => CxR_f (hCx x hx) (Nat.le_refl _) (fun a y u1 u2 u3 => lA a y (by omega) (by omega) (by omega) (by omega) (by omega) (by omega) (by omega) (by omega) (by omega) (by omega) (by omega)) (fun a y u1 u2 u3 => lM a y (by omega) (by omega) (by omega) (by omega) (by omega) (by omega) (by omega) (by omega) (by omega) (by omega) (by omega) (by omega) (by omega)) (lM _ _ (by omega) (by omega) (by omega) (by omega) (by omega) (by omega) (by omega) (by omega) (by omega) (by omega) (by omega) (by omega) (by omega)) (fun a u1 u2 => by
    funext y
    exact lL a y (by omega) (by omega) (by omega) (by omega) (by omega)) (by
    obtain ⟨_, _, _, _, _, z⟩ := kQ x hx
    exact z)
  -- the tasks
  obtain ⟨A3, Lc3, M3, L3, t1, t2, t3, t4, uA, uM, uC, uL⟩ := st_tasks (fu := fu) (t := t + 1) (X := X) (fr := fr) (by omega) (by omega) T 0 fu fu A2 M2 Lc2 L2 (by omega) (by have := hTs.1; omega) (by have := hTs.1; omega) hTs2 k16 k83 (fun x hx => ⟨hCx2 x hx, kQ x hx⟩)
  have hSl3 : SlW A3 M3 C S F W X T (t + 1) d tu g si := SlW_f hSl2 (fun a y u => uA a y (by omega)) (fun a y u => uM a y (by omega) (by omega) (by omega) (by omega))
  have hCo3 : RCo A3 M3 L3 T C (t + 1) := RCo_w hCo2 (fun a y u1 u2 => uA a y (by omega)) (fun a y u1 u2 => uM a y (by omega) (by omega) (by omega) (by omega)) (fun a y u1 u2 => uL a y (by omega))
  have hW3 : WtR A3 M3 L3 W S (g 4) (g 5) := WtR_f kW (fun a y u => uA a y (by omega)) (fun a y u => uM a y (by omega) (by omega) (by omega) (by omega)) (fun y => uL _ y (by omega))
  have hT3 : RTr A3 M3 W E2 := RTr_fr kT (fun a y u1 u2 => uA a y (by omega)) (fun a y u1 u2 u3 => uM a y (by omega) (by omega) (by omega) (by omega))
  have hTk3 : TkB A3 M3 Lc3 L3 S F W R X (t + 1) E2 d tu g own Sb (fun x => bd x + 64) := TkB_g hTk2 (FrS_f kS (fun a y u => uA a y (by omega)) (fun a y u => uM a y (by omega) (by omega) (by omega) (by omega))) (fun x hx => (t3 x hx).2) hW3 hT3 (RCd_fr kC (fun a y u1 u2 => uA a y (by omega)) (fun a y u => uM a y (by omega) (by omega) (by omega) (by omega))) (fun a y u => uA a y (by omega)) (fun a y u => uM a y (by omega) (by omega) (by omega) (by omega)) (fun y => uC _ y (by omega)) (fun a y u => uL a y (by omega)) (by rw [uA _ _ (by omega)]; exact k16) (by rw [uM _ _ (by omega) (by omega) (by omega) (by omega)]; exact k83) (by omega)
  have hTr3 : TrB A3 M3 L3 C Sb p2 o2 e2 := TrB_f hTr2 (fun a y u => uA a y (by omega)) (fun a y u => uM a y (by omega) (by omega) (by omega) (by omega)) (fun a y u1 u2 => uL a y (by omega))
  have hBu3 : BusE A3 M3 (C + 1) (t + 1) ec' tc' fl := BusE_fr hBu2 (fun a y u1 u2 => uA a y (by omega)) (fun a y u1 u2 u3 => uM a y (by omega) (by omega) (by omega) (by omega))
  -- silence
  obtain ⟨A4, M4, L4, E4, q1, q2, q3, q4, q5, q6, vA, vM, vL⟩ := st_silence (fu := fu) (t := t + 1) (Lc := Lc3) (pe := fun w => d 1 (g 4 w)) (by omega) hW3 hTk3.1.2.2.1 hT3 (by omega) (by omega) (by rw [uM _ _ (by omega) (by omega) (by omega) (by omega)]; exact k83) (fun w hw => by
    obtain ⟨_, _, _, _, _, _, r7, _⟩ := hSl3
    obtain ⟨_, _, _, _, _, _, _, rS, _⟩ := hTk3.1
    obtain ⟨_, _, rw1, rw2⟩ := hW3
    obtain ⟨_, _, ws1, _⟩ := rw2 w hw
    obtain ⟨_, _, _, _, _, _, _, _, _, _, _, _, _, _, _, _, _, _, p1, p2, p3⟩ := rS (g 4 w) ws1
    exact ⟨r7 w hw, p1, p3⟩)
  have hSl4 : SlW A4 M4 C S F W X T (t + 1) d tu g si := SlW_f hSl3 (fun a y u => vA a y (by omega) (by omega)) (fun a y u => vM a y (by omega))
  have hCo4 : RCo A4 M4 L4 T C (t + 1) := RCo_w hCo3 (fun a y u1 u2 => vA a y (by omega) (by omega)) (fun a y u1 u2 => vM a y (by omega)) (fun a y u1 u2 => vL a y (by omega))
  obtain ⟨jS, jO, jR, jQ, jW, jT, jC, jK, jN, j1, j2, j16, j83, jt⟩ := id hTk3
  have hTk4 : TkB A4 M4 Lc3 L4 S F W R X (t + 1) E4 d tu g own Sb (fun x => bd x + 64) := TkB_g hTk3 (FrS_f jS (fun a y u => vA a y (by omega) (by omega)) (fun a y u => vM a y (by omega))) (fun x hx => QdR_f (jQ x hx) (fun a y u => vA a y (by omega) (by omega)) (fun a y u => vM a y (by omega)) (fun _ => rfl) (fun y => vL _ y (by omega))) q3 q4 (RCd_fr jC (fun a y u1 u2 => vA a y (by omega) (by omega)) (fun a y u => vM a y (by omega))) (fun a y u => vA a y (by omega) (by omega)) (fun a y u => vM a y (by omega)) (fun _ => rfl) (fun a y u => vL a y (by omega)) (by rw [vA _ _ (by omega) (by omega)]; exact j16) (by rw [vM _ _ (by omega)]; exact j83) (by omega)
  have hTr4 : TrB A4 M4 L4 C Sb p2 o2 e2 := TrB_f hTr3 (fun a y u => vA a y (by omega) (by omega)) (fun a y u => vM a y (by omega)) (fun a y u1 u2 => vL a y (by omega))
  have hBu4 : BusE A4 M4 (C + 1) (t + 1) ec' tc' fl := BusE_fr hBu3 (fun a y u1 u2 => vA a y (by omega) (by omega)) (fun a y u1 u2 u3 => vM a y (by omega))
  obtain ⟨iS, iO, iR, iQ, iW, iT, iC, iK, iN, i1, i2, i16, i83, it⟩ := id hTk4
  -- the transfer
  obtain ⟨A5, M5, L5, p5, e5, r1, r2, hTr5, r3, hBu5, r4, r5, xA, xM, xL⟩ := st_pass (fu := fu) (Lc := Lc3) (by omega) hTr4 hBu4 i16 i83 (by rw [y5, hp]) (by omega) (by rw [vA _ _ (by omega) (by omega), uA _ _ (by omega)]; exact h13) (by rw [vM _ _ (by omega), uM _ _ (by omega) (by omega) (by omega) (by omega)]; exact h19) hC6 (by rw [vA _ _ (by omega) (by omega), uA _ _ (by omega), vM _ _ (by omega), uM _ _ (by omega) (by omega) (by omega) (by omega), lA _ _ (by omega) (by omega) (by omega) (by omega) (by omega) (by omega) (by omega) (by omega) (by omega) (by omega) (by omega), lM _ _ (by omega) (by omega) (by omega) (by omega) (by omega) (by omega) (by omega) (by omega) (by omega) (by omega) (by omega) (by omega) (by omega)]; exact h0) (by rw [vA _ _ (by omega) (by omega), uA _ _ (by omega), vM _ _ (by omega), uM _ _ (by omega) (by omega) (by omega) (by omega), lA _ _ (by omega) (by omega) (by omega) (by omega) (by omega) (by omega) (by omega) (by omega) (by omega) (by omega) (by omega), lM _ _ (by omega) (by omega) (by omega) (by omega) (by omega) (by omega) (by omega) (by omega) (by omega) (by omega) (by omega) (by omega) (by omega)]; exact h4)
  have hSl5 : SlW A5 M5 C S F W X T (t + 1) d tu g si := SlW_f hSl4 (fun a y u => xA a y (by omega) (by omega) (by omega) (by omega)) (fun a y u => xM a y (by omega) (by omega) (by omega) (by omega) (by omega) (by omega))
  have hCo5 : RCo A5 M5 L5 T C (t + 1) := RCo_w hCo4 (fun a y u1 u2 => xA a y (by omega) (by omega) (by omega) (by omega)) (fun a y u1 u2 => xM a y (by omega) (by omega) (by omega) (by omega) (by omega) (by omega)) (fun a y u1 u2 => xL a y (by omega))
  have hTk5 : TkB A5 M5 Lc3 L5 S F W R X (t + 1) E4 d tu g own Sb (fun x => bd x + 64) := TkB_g hTk4 (FrS_f iS (fun a y u => xA a y (by omega) (by omega) (by omega) (by omega)) (fun a y u => xM a y (by omega) (by omega) (by omega) (by omega) (by omega) (by omega))) (fun x hx => QdR_f (iQ x hx) (fun a y u => xA a y (by omega) (by omega) (by omega) (by omega)) (fun a y u => xM a y (by omega) (by omega) (by omega) (by omega) (by omega) (by omega)) (fun _ => rfl) (fun y => xL _ y (by omega))) (WtR_f iW (fun a y u => xA a y (by omega) (by omega) (by omega) (by omega)) (fun a y u => xM a y (by omega) (by omega) (by omega) (by omega) (by omega) (by omega)) (fun y => xL _ y (by omega))) (RTr_fr iT (fun a y u1 u2 => xA a y (by omega) (by omega) (by omega) (by omega)) (fun a y u1 u2 u3 => xM a y (by omega) (by omega) (by omega) (by omega) (by omega) (by omega))) (RCd_fr iC (fun a y u1 u2 => xA a y (by omega) (by omega) (by omega) (by omega)) (fun a y u => xM a y (by omega) (by omega) (by omega) (by omega) (by omega) (by omega))) (fun a y u => xA a y (by omega) (by omega) (by omega) (by omega)) (fun a y u => xM a y (by omega) (by omega) (by omega) (by omega) (by omega) (by omega)) (fun _ => rfl) (fun a y u => xL a y (by omega)) (by rw [xA _ _ (by omega) (by omega) (by omega) (by omega)]; exact i16) (by rw [xM _ _ (by omega) (by omega) (by omega) (by omega) (by omega) (by omega)]; exact i83) (by omega)
  refine ⟨A5, M5, Lc3, L5, E4, fun x => bd x + 64, p5, o2, e5, ec', tc', ?_, ?_, ⟨hTk5, hTr5, r3, hBu5, hSl5, hCo5, fun x hx => ?_, fun i hi => ?_, fun k hk => ?_, r4, r5, by omega, fun c hc => by have := hbd c hc; dsimp only; omega⟩, fun a y u => by rw [xM a y (by omega) (by omega) (by omega) (by omega) (by omega) (by omega), vM a y (by omega), uM a y (by omega) (by omega) (by omega) (by omega), lM a y (by omega) (by omega) (by omega) (by omega) (by omega) (by omega) (by omega) (by omega) (by omega) (by omega) (by omega) (by omega) (by omega), kM a y u], fun a y u1 u2 u3 => by rw [uC a y (by omega), lC a y (by omega) (by omega)], fun a y u1 u2 u3 => by rw [xL a y (by omega), vL a y (by omega), uL a y (by omega), lL a y (by omega) (by omega) (by omega) (by omega) (by omega), kL a y u1 u2 u3], fun a y u => by rw [xA a y (by omega) (by omega) (by omega) (by omega), vA a y (by omega) (by omega), uA a y (by omega), lA a y (by omega) (by omega) (by omega) (by omega) (by omega) (by omega) (by omega) (by omega) (by omega) (by omega) (by omega), kA a y u]⟩
  · rw [z1, y1]
    unfold fX1_passMicrosecond_b54
    rw [show (0 : Int32) = sI 0 from rfl, t1]
    unfold fX1_passMicrosecond_b122
    rw [show A3 3 16 = sI (t + 1) from j16, q1, mb2_s, r1, mb2_s]
  · rw [z2, y2]
    rw [show fX19_microsecond_h139 fu fu (0, M2, L2) = fX19_microsecond_h139 fu fu (sI 0, M2, L2) from rfl, t2, q2, r2, mb2_s]
  · refine CxR_f (t3 x hx).1 (Nat.le_refl _) (fun a y u1 u2 u3 => by rw [xA a y (by omega) (by omega) (by omega) (by omega), vA a y (by omega) (by omega)]) (fun a y u1 u2 u3 => by rw [xM a y (by omega) (by omega) (by omega) (by omega) (by omega) (by omega), vM a y (by omega)]) (by rw [xM _ _ (by omega) (by omega) (by omega) (by omega) (by omega) (by omega), vM _ _ (by omega)]) (fun a u1 u2 => by
      funext y
      rw [xL a y (by omega), vL a y (by omega)]) ?_
    obtain ⟨_, _, _, jq, _⟩ := hTk5
    obtain ⟨_, _, _, _, _, z⟩ := jq x hx
    exact z
  · have q := t4 i hi
    have q0 : (if 0 ≤ i ∧ fr.testBit i = true then M2 748 i + 1 else M2 748 i) = (if fr.testBit i = true then M2 748 i + 1 else M2 748 i) := by
      cases fr.testBit i
      · rfl
      · rw [if_pos ⟨by omega, rfl⟩, if_pos rfl]
    rw [q0] at q
    rw [xA _ _ (by omega) (by omega) (by omega) (by omega), vA _ _ (by omega) (by omega), uA _ _ (by omega), lA _ _ (by omega) (by omega) (by omega) (by omega) (by omega) (by omega) (by omega) (by omega) (by omega) (by omega) (by omega), h17 i hi, xM _ _ (by omega) (by omega) (by omega) (by omega) (by omega) (by omega), vM _ _ (by omega), q, lM _ _ (by omega) (by omega) (by omega) (by omega) (by omega) (by omega) (by omega) (by omega) (by omega) (by omega) (by omega) (by omega) (by omega)]
  · rw [xM _ _ (by omega) (by omega) (by omega) (by omega) (by omega) (by omega), vM _ _ (by omega), uM _ _ (by omega) (by omega) (by omega) (by omega)]
    have := h924 k hk
    rw [if_pos (by omega)] at this
    exact this
/-! READING: words -/
def spF (tx : Nat → Nat) : Nat → Nat → Nat
  | 0, a => a
  | r + 1, a => if tx a = 32 then spF tx r (a + 1) else a
def wdF (tx : Nat → Nat) : Nat → Nat → Nat
  | 0, a => a
  | r + 1, a => if tx a = 32 then a else wdF tx r (a + 1)
theorem sp_b {tx : Nat → Nat} : ∀ r a, a ≤ spF tx r a ∧ spF tx r a ≤ a + r ∧ (spF tx r a < a + r → tx (spF tx r a) ≠ 32) := by
  intro r
  induction r with
  | zero => intro a; exact ⟨Nat.le_refl _, Nat.le_refl _, fun h => absurd h (by show ¬ a < a + 0; omega)⟩
  | succ r ih =>
    intro a
    unfold spF
    by_cases c : tx a = 32
    · rw [if_pos c]
      obtain ⟨h1, h2, h3⟩ := ih (a + 1)
      exact ⟨by omega, by omega, fun h => h3 (by omega)⟩
    · rw [if_neg c]
      exact ⟨Nat.le_refl _, by omega, fun _ => c⟩
theorem wd_b {tx : Nat → Nat} : ∀ r a, a ≤ wdF tx r a ∧ wdF tx r a ≤ a + r ∧ (wdF tx r a < a + r → tx (wdF tx r a) = 32) ∧ ∀ i, a ≤ i → i < wdF tx r a → tx i ≠ 32 := by
  intro r
  induction r with
  | zero => intro a; exact ⟨Nat.le_refl _, Nat.le_refl _, fun h => absurd h (by show ¬ a < a + 0; omega), fun i h1 h2 => absurd h2 (by show ¬ i < a; omega)⟩
  | succ r ih =>
    intro a
    unfold wdF
    by_cases c : tx a = 32
    · rw [if_pos c]
      exact ⟨Nat.le_refl _, by omega, fun _ => c, fun i h1 h2 => by omega⟩
    · rw [if_neg c]
      obtain ⟨h1, h2, h3, h4⟩ := ih (a + 1)
      refine ⟨by omega, by omega, fun h => h3 (by omega), fun i u1 u2 => ?_⟩
      by_cases e : i = a
      · rw [e]; exact c
      · exact h4 i (by omega) u2
/-- where the next word begins, whether there is one, where it ends -/
def nwB (tx : Nat → Nat) (le a : Nat) : Nat := spF tx (le - a) a
def nwK (tx : Nat → Nat) (le a : Nat) : Bool := decide (nwB tx le a < le ∧ tx (nwB tx le a) ≠ 35)
def nwE (tx : Nat → Nat) (le a : Nat) : Nat := wdF tx (le - nwB tx le a) (nwB tx le a)
theorem nw_b {tx : Nat → Nat} {le a : Nat} (h : a ≤ le) : a ≤ nwB tx le a ∧ nwB tx le a ≤ le ∧ nwB tx le a ≤ nwE tx le a ∧ nwE tx le a ≤ le ∧ (nwK tx le a = true → nwB tx le a < nwE tx le a) ∧ (nwE tx le a < le → tx (nwE tx le a) = 32) ∧ (nwK tx le a = true → tx a = 32 → a < nwB tx le a) ∧ (∀ i, nwB tx le a ≤ i → i < nwE tx le a → tx i ≠ 32) := by
  obtain ⟨h1, h2, h3⟩ := sp_b (tx := tx) (le - a) a
  have e1 : nwB tx le a = spF tx (le - a) a := rfl
  rw [← e1] at h1 h2 h3
  obtain ⟨g1, g2, g3, g4⟩ := wd_b (tx := tx) (le - nwB tx le a) (nwB tx le a)
  have e2 : nwE tx le a = wdF tx (le - nwB tx le a) (nwB tx le a) := rfl
  rw [← e2] at g1 g2 g3 g4
  refine ⟨h1, by omega, g1, by omega, fun hk => ?_, fun hl => g3 (by omega), fun hk ha => ?_, g4⟩
  · have hk' := of_decide_eq_true hk
    by_cases c : nwB tx le a < nwE tx le a
    · exact c
    · have ee : nwE tx le a = nwB tx le a := by omega
      have := g3 (by omega)
      rw [ee] at this
      exact absurd this (h3 (by omega))
  · have hk' := of_decide_eq_true hk
    by_cases c : a < nwB tx le a
    · exact c
    · have ee : nwB tx le a = a := by omega
      have := h3 (by omega)
      rw [ee] at this
      exact absurd ha this
def TxC (A : mwM) (n : Nat) (tx : Nat → Nat) : Prop := A 1 4 = sI n ∧ n ≤ 6000 ∧ ∀ j, j < n → A 2 j = sI (tx j) ∧ 0 < tx j ∧ tx j < 256
def TxM (M : mwM) (n : Nat) (tx : Nat → Nat) : Prop := M 732 2 = sI n ∧ n ≤ 6000 ∧ ∀ j, j < n → M 733 j = sI (tx j) ∧ 0 < tx j ∧ tx j < 256
theorem sI_32 {x : Nat} (h : x < 256) : (sI x = 32) ↔ x = 32 := by rw [show (32 : Int32) = sI 32 from rfl, sI_eq (by omega) (by omega)]
theorem sI_35 {x : Nat} (h : x < 256) : (sI x = 35) ↔ x = 35 := by rw [show (35 : Int32) = sI 35 from rfl, sI_eq (by omega) (by omega)]
theorem c_sp {fu n le : Nat} {A : mwM} {L : mwL} {tx : Nat → Nat} (hT : TxC A n tx) (h6 : A 1 6 = sI le) (hle : le ≤ n) : ∀ (r q a : Nat) (B : mwM), a + r = le → r < q → B 1 5 = sI a → (∀ x y, ¬ (x = 1 ∧ y = 5) → B x y = A x y) → fX8_nextWord_h0 fu q (B, L) = fX8_nextWord_b38 fu (mset B 1 5 (sI (spF tx r a))) L := by
  intro r
  have hn := hT.2.1
  induction r with
  | zero =>
    intro q a B ha hq h5 hB
    obtain ⟨q, rfl⟩ : ∃ y, q = y + 1 := ⟨q - 1, by omega⟩
    show fX8_nextWord_i0 fu (fX8_nextWord_h0 fu q) B L = _
    unfold fX8_nextWord_i0
    rw [h5, hB 1 6 (by omega), h6, if_pos (show sI le ≤ sI a by rw [sI_le (by omega) (by omega)]; omega)]
    unfold spF
    rw [mset_id h5]
  | succ r ih =>
    intro q a B ha hq h5 hB
    obtain ⟨q, rfl⟩ : ∃ y, q = y + 1 := ⟨q - 1, by omega⟩
    obtain ⟨t1, t2, t3⟩ := hT.2.2 a (by omega)
    show fX8_nextWord_i0 fu (fX8_nextWord_h0 fu q) B L = _
    unfold fX8_nextWord_i0
    rw [h5, hB 1 6 (by omega), h6, if_neg (show ¬ sI le ≤ sI a by rw [sI_le (by omega) (by omega)]; omega), mck_s (by omega) (by omega), sI_nn (by omega), hB 2 a (by omega), t1]
    unfold spF
    by_cases c : tx a = 32
    · rw [if_pos c, if_pos (show sI (tx a) = 32 by rw [c]; rfl), mlet_e, sI_1, ih q (a + 1) (mset B 1 5 (sI (a + 1))) (by omega) (by omega) mset_s (fun x y u => by rw [mset_n u]; exact hB x y u), mset_ii]
    · rw [if_neg c, if_neg (show ¬ sI (tx a) = 32 by rw [sI_32 t3]; exact c), mset_id h5]
theorem c_wd {fu n le : Nat} {A : mwM} {L : mwL} {tx : Nat → Nat} (hT : TxC A n tx) (h6 : A 1 6 = sI le) (hle : le ≤ n) : ∀ (r q a : Nat) (B : mwM), a + r = le → r < q → B 1 5 = sI a → (∀ x y, ¬ (x = 1 ∧ (y = 5 ∨ y = 8)) → B x y = A x y) → fX8_nextWord_h85 fu q (B, L) = fX8_nextWord_b123 fu (mset B 1 5 (sI (wdF tx r a))) L := by
  intro r
  have hn := hT.2.1
  induction r with
  | zero =>
    intro q a B ha hq h5 hB
    obtain ⟨q, rfl⟩ : ∃ y, q = y + 1 := ⟨q - 1, by omega⟩
    show fX8_nextWord_i85 fu (fX8_nextWord_h85 fu q) B L = _
    unfold fX8_nextWord_i85
    rw [h5, hB 1 6 (by omega), h6, if_pos (show sI le ≤ sI a by rw [sI_le (by omega) (by omega)]; omega)]
    unfold wdF
    rw [mset_id h5]
  | succ r ih =>
    intro q a B ha hq h5 hB
    obtain ⟨q, rfl⟩ : ∃ y, q = y + 1 := ⟨q - 1, by omega⟩
    obtain ⟨t1, t2, t3⟩ := hT.2.2 a (by omega)
    show fX8_nextWord_i85 fu (fX8_nextWord_h85 fu q) B L = _
    unfold fX8_nextWord_i85
    rw [h5, hB 1 6 (by omega), h6, if_neg (show ¬ sI le ≤ sI a by rw [sI_le (by omega) (by omega)]; omega), mck_s (by omega) (by omega), sI_nn (by omega), hB 2 a (by omega), t1]
    unfold wdF
    by_cases c : tx a = 32
    · rw [if_pos c, if_pos (show sI (tx a) = 32 by rw [c]; rfl), mset_id h5]
    · rw [if_neg c, if_neg (show ¬ sI (tx a) = 32 by rw [sI_32 t3]; exact c), mlet_e, sI_1, ih q (a + 1) (mset B 1 5 (sI (a + 1))) (by omega) (by omega) mset_s (fun x y u => by rw [mset_n (by omega)]; exact hB x y u), mset_ii]
theorem c_next {fu n le a : Nat} {A : mwM} {L : mwL} {tx : Nat → Nat} (hfu : 6100 ≤ fu) (hT : TxC A n tx) (h5 : A 1 5 = sI a) (h6 : A 1 6 = sI le) (ha : a ≤ le) (hle : le ≤ n) : ∃ A', DX8_nextWord fu A L = some (A', L) ∧ (nwK tx le a = true → A' 1 5 = sI (nwE tx le a) ∧ A' 1 8 = sI (nwB tx le a) ∧ A' 1 9 = sI (nwE tx le a - nwB tx le a)) ∧ (nwK tx le a = false → A' 1 5 = sI (nwB tx le a) ∧ A' 1 8 = sI le ∧ A' 1 9 = sI 0) ∧ ∀ x y, ¬ (x = 1 ∧ (y = 5 ∨ y = 8 ∨ y = 9)) → A' x y = A x y := by
  have hn := hT.2.1
  obtain ⟨b1, b2, b3, b4, b5, b6, b7, _⟩ := nw_b (tx := tx) ha
  have e0 := c_sp (fu := fu) (L := L) hT h6 hle (le - a) fu a A (by omega) (by omega) h5 (fun _ _ _ => rfl)
  have eb : spF tx (le - a) a = nwB tx le a := rfl
  rw [eb] at e0
  unfold DX8_nextWord
  rw [e0]
  unfold fX8_nextWord_b38 fX8_nextWord_b63
  rw [mset_s, mset_n (show ¬ (1 = 1 ∧ 6 = 5) by omega), h6]
  by_cases c1 : le ≤ nwB tx le a
  · have hk : nwK tx le a = false := decide_eq_false (by omega)
    rw [if_pos (show sI le ≤ sI (nwB tx le a) by rw [sI_le (by omega) (by omega)]; omega), mlet_e, mlet_e]
    refine ⟨_, rfl, fun h => absurd h (by rw [hk]; decide), fun _ => ⟨?_, ?_, ?_⟩, fun x y u => ?_⟩
    · rw [mset_n (by omega), mset_n (by omega), mset_s]
    · rw [mset_n (by omega), mset_s]
    · rw [mset_s]; rfl
    · rw [mset_n (by omega), mset_n (by omega), mset_n (by omega)]
  · obtain ⟨t1, t2, t3⟩ := hT.2.2 (nwB tx le a) (by omega)
    rw [if_neg (show ¬ sI le ≤ sI (nwB tx le a) by rw [sI_le (by omega) (by omega)]; omega), mck_s (by omega) (by omega), sI_nn (by omega), mset_n (show ¬ (2 = 1 ∧ nwB tx le a = 5) by omega), t1]
    by_cases c2 : tx (nwB tx le a) = 35
    · have hk : nwK tx le a = false := decide_eq_false (by omega)
      rw [if_pos (show sI (tx (nwB tx le a)) = 35 by rw [c2]; rfl), mlet_e, mlet_e]
      refine ⟨_, rfl, fun h => absurd h (by rw [hk]; decide), fun _ => ⟨?_, ?_, ?_⟩, fun x y u => ?_⟩
      · rw [mset_n (by omega), mset_n (by omega), mset_s]
      · rw [mset_n (by omega), mset_s]
      · rw [mset_s]; rfl
      · rw [mset_n (by omega), mset_n (by omega), mset_n (by omega)]
    · have hk : nwK tx le a = true := decide_eq_true ⟨by omega, c2⟩
      rw [if_neg (show ¬ sI (tx (nwB tx le a)) = 35 by rw [sI_35 t3]; exact c2), mlet_e, c_wd (fu := fu) (L := L) hT h6 hle (le - nwB tx le a) fu (nwB tx le a) _ (by omega) (by omega) (by rw [mset_n (by omega), mset_s]) (fun x y u => by rw [mset_n (by omega), mset_n (by omega)])]
      have ee : wdF tx (le - nwB tx le a) (nwB tx le a) = nwE tx le a := rfl
      rw [ee]
      unfold fX8_nextWord_b123
      rw [mlet_e, mset_s, mset_n (show ¬ (1 = 1 ∧ 8 = 5) by omega), mset_s, sI_sub (by omega)]
      refine ⟨_, rfl, fun _ => ⟨?_, ?_, ?_⟩, fun h => absurd h (by rw [hk]; decide), fun x y u => ?_⟩
      · rw [mset_n (by omega), mset_s]
      · rw [mset_n (by omega), mset_n (by omega), mset_s]
      · rw [mset_s]
      · rw [mset_n (by omega), mset_n (by omega), mset_n (by omega), mset_n (by omega)]
/-! READING: the reference's words; what must come, what must not -/
theorem m_sp {fu n le : Nat} {A : mwM} {L : mwL} {tx : Nat → Nat} (hT : TxM A n tx) (h6 : A 732 7 = sI le) (hle : le ≤ n) : ∀ (r q a : Nat) (B : mwM), a + r = le → r < q → B 732 6 = sI a → (∀ x y, ¬ (x = 732 ∧ y = 6) → B x y = A x y) → fX19_next_h0 fu q (B, L) = fX19_next_b38 fu (mset B 732 6 (sI (spF tx r a))) L := by
  intro r
  have hn := hT.2.1
  induction r with
  | zero =>
    intro q a B ha hq h5 hB
    obtain ⟨q, rfl⟩ : ∃ y, q = y + 1 := ⟨q - 1, by omega⟩
    show fX19_next_i0 fu (fX19_next_h0 fu q) B L = _
    unfold fX19_next_i0
    rw [h5, hB 732 7 (by omega), h6, if_pos (show sI le ≤ sI a by rw [sI_le (by omega) (by omega)]; omega)]
    unfold spF
    rw [mset_id h5]
  | succ r ih =>
    intro q a B ha hq h5 hB
    obtain ⟨q, rfl⟩ : ∃ y, q = y + 1 := ⟨q - 1, by omega⟩
    obtain ⟨t1, t2, t3⟩ := hT.2.2 a (by omega)
    show fX19_next_i0 fu (fX19_next_h0 fu q) B L = _
    unfold fX19_next_i0
    rw [h5, hB 732 7 (by omega), h6, if_neg (show ¬ sI le ≤ sI a by rw [sI_le (by omega) (by omega)]; omega), mck_s (by omega) (by omega), sI_nn (by omega), hB 733 a (by omega), t1]
    unfold spF
    by_cases c : tx a = 32
    · rw [if_pos c, if_pos (show sI (tx a) = 32 by rw [c]; rfl), mlet_e, sI_1, ih q (a + 1) (mset B 732 6 (sI (a + 1))) (by omega) (by omega) mset_s (fun x y u => by rw [mset_n u]; exact hB x y u), mset_ii]
    · rw [if_neg c, if_neg (show ¬ sI (tx a) = 32 by rw [sI_32 t3]; exact c), mset_id h5]
theorem m_wd {fu n le : Nat} {A : mwM} {L : mwL} {tx : Nat → Nat} (hT : TxM A n tx) (h6 : A 732 7 = sI le) (hle : le ≤ n) : ∀ (r q a : Nat) (B : mwM), a + r = le → r < q → B 732 6 = sI a → (∀ x y, ¬ (x = 732 ∧ (y = 6 ∨ y = 9)) → B x y = A x y) → fX19_next_h73 fu q (B, L) = fX19_next_b111 fu (mset B 732 6 (sI (wdF tx r a))) L := by
  intro r
  have hn := hT.2.1
  induction r with
  | zero =>
    intro q a B ha hq h5 hB
    obtain ⟨q, rfl⟩ : ∃ y, q = y + 1 := ⟨q - 1, by omega⟩
    show fX19_next_i73 fu (fX19_next_h73 fu q) B L = _
    unfold fX19_next_i73
    rw [h5, hB 732 7 (by omega), h6, if_pos (show sI le ≤ sI a by rw [sI_le (by omega) (by omega)]; omega)]
    unfold wdF
    rw [mset_id h5]
  | succ r ih =>
    intro q a B ha hq h5 hB
    obtain ⟨q, rfl⟩ : ∃ y, q = y + 1 := ⟨q - 1, by omega⟩
    obtain ⟨t1, t2, t3⟩ := hT.2.2 a (by omega)
    show fX19_next_i73 fu (fX19_next_h73 fu q) B L = _
    unfold fX19_next_i73
    rw [h5, hB 732 7 (by omega), h6, if_neg (show ¬ sI le ≤ sI a by rw [sI_le (by omega) (by omega)]; omega), mck_s (by omega) (by omega), sI_nn (by omega), hB 733 a (by omega), t1]
    unfold wdF
    by_cases c : tx a = 32
    · rw [if_pos c, if_pos (show sI (tx a) = 32 by rw [c]; rfl), mset_id h5]
    · rw [if_neg c, if_neg (show ¬ sI (tx a) = 32 by rw [sI_32 t3]; exact c), mlet_e, sI_1, ih q (a + 1) (mset B 732 6 (sI (a + 1))) (by omega) (by omega) mset_s (fun x y u => by rw [mset_n (by omega)]; exact hB x y u), mset_ii]
theorem m_next {fu n le a : Nat} {M : mwM} {L : mwL} {tx : Nat → Nat} (hfu : 6100 ≤ fu) (hT : TxM M n tx) (h6 : M 732 6 = sI a) (h7 : M 732 7 = sI le) (ha : a ≤ le) (hle : le ≤ n) : ∃ M', DX19_next fu M L = some (bI (nwK tx le a), M', L) ∧ (nwK tx le a = true → M' 732 6 = sI (nwE tx le a) ∧ M' 732 9 = sI (nwB tx le a) ∧ M' 732 10 = sI (nwE tx le a)) ∧ (nwK tx le a = false → M' 732 6 = sI (nwB tx le a)) ∧ ∀ x y, ¬ (x = 732 ∧ (y = 6 ∨ y = 9 ∨ y = 10)) → M' x y = M x y := by
  have hn := hT.2.1
  obtain ⟨b1, b2, b3, b4, b5, b6, b7, _⟩ := nw_b (tx := tx) ha
  have e0 := m_sp (fu := fu) (L := L) hT h7 hle (le - a) fu a M (by omega) (by omega) h6 (fun _ _ _ => rfl)
  have eb : spF tx (le - a) a = nwB tx le a := rfl
  rw [eb] at e0
  unfold DX19_next
  rw [e0]
  unfold fX19_next_b38 fX19_next_b63
  rw [mset_s, mset_n (show ¬ (732 = 732 ∧ 7 = 6) by omega), h7]
  by_cases c1 : le ≤ nwB tx le a
  · have hk : nwK tx le a = false := decide_eq_false (by omega)
    rw [if_pos (show sI (nwB tx le a) = sI le by rw [sI_eq (by omega) (by omega)]; omega), hk]
    refine ⟨_, rfl, fun h => absurd h (by decide), fun _ => mset_s, fun x y u => mset_n (by omega)⟩
  · obtain ⟨t1, t2, t3⟩ := hT.2.2 (nwB tx le a) (by omega)
    rw [if_neg (show ¬ sI (nwB tx le a) = sI le by rw [sI_eq (by omega) (by omega)]; omega), mck_s (by omega) (by omega), sI_nn (by omega), mset_n (show ¬ (733 = 732 ∧ nwB tx le a = 6) by omega), t1]
    by_cases c2 : tx (nwB tx le a) = 35
    · have hk : nwK tx le a = false := decide_eq_false (by omega)
      rw [if_pos (show sI (tx (nwB tx le a)) = 35 by rw [c2]; rfl), hk]
      refine ⟨_, rfl, fun h => absurd h (by decide), fun _ => mset_s, fun x y u => mset_n (by omega)⟩
    · have hk : nwK tx le a = true := decide_eq_true ⟨by omega, c2⟩
      rw [if_neg (show ¬ sI (tx (nwB tx le a)) = 35 by rw [sI_35 t3]; exact c2), mlet_e, m_wd (fu := fu) (L := L) hT h7 hle (le - nwB tx le a) fu (nwB tx le a) _ (by omega) (by omega) (by rw [mset_n (by omega), mset_s]) (fun x y u => by rw [mset_n (by omega), mset_n (by omega)]), hk]
      have ee : wdF tx (le - nwB tx le a) (nwB tx le a) = nwE tx le a := rfl
      rw [ee]
      unfold fX19_next_b111
      rw [mlet_e, mset_s]
      refine ⟨_, rfl, fun _ => ⟨?_, ?_, ?_⟩, fun h => absurd h (by decide), fun x y u => ?_⟩
      · rw [mset_n (by omega), mset_s]
      · rw [mset_n (by omega), mset_n (by omega), mset_s]
      · rw [mset_s]
      · rw [mset_n (by omega), mset_n (by omega), mset_n (by omega), mset_n (by omega)]
/-- a line that is being read, up to a -/
def Ld (A M : mwM) (n : Nat) (tx : Nat → Nat) (le a : Nat) : Prop := TxC A n tx ∧ TxM M n tx ∧ A 1 6 = sI le ∧ M 732 7 = sI le ∧ le ≤ n ∧ A 1 5 = sI a ∧ M 732 6 = sI a ∧ a ≤ le ∧ A 1 12 = 0
/-- the word at hand -/
def Hw (A M : mwM) (w e : Nat) : Prop := A 1 8 = sI w ∧ A 1 9 = sI (e - w) ∧ M 732 9 = sI w ∧ M 732 10 = sI e ∧ w < e
/-- both have found the same fault -/
def Fx (A M : mwM) : Prop := ∃ k w, 1 ≤ k ∧ k ≤ 8 ∧ w ≤ 6000 ∧ A 1 12 = sI k ∧ M 732 11 = sI k ∧ A 1 13 = sI w ∧ M 732 12 = sI w
abbrev fW (A A' : mwM) : Prop := ∀ x y, ¬ (x = 1 ∧ (y = 5 ∨ y = 8 ∨ y = 9 ∨ y = 12 ∨ y = 13)) → A' x y = A x y
abbrev fR (M M' : mwM) : Prop := ∀ x y, ¬ (x = 732 ∧ (y = 6 ∨ (9 ≤ y ∧ y ≤ 12))) → M' x y = M x y
theorem Fx_n {A M : mwM} (h : Fx A M) : ¬ A 1 12 = 0 := by
  obtain ⟨k, w, h1, h2, h3, h4, _⟩ := h
  rw [h4, show (0 : Int32) = sI 0 from rfl, sI_eq (by omega) (by omega)]
  omega
theorem TxC_f {A A' : mwM} {n : Nat} {tx : Nat → Nat} (h : TxC A n tx) (hA : ∀ x y, (x = 1 ∧ y = 4) ∨ x = 2 → A' x y = A x y) : TxC A' n tx := by
  refine ⟨by rw [hA _ _ (by omega)]; exact h.1, h.2.1, fun j hj => ?_⟩
  rw [hA _ _ (by omega)]
  exact h.2.2 j hj
theorem TxM_f {M M' : mwM} {n : Nat} {tx : Nat → Nat} (h : TxM M n tx) (hM : ∀ x y, (x = 732 ∧ y = 2) ∨ x = 733 → M' x y = M x y) : TxM M' n tx := by
  refine ⟨by rw [hM _ _ (by omega)]; exact h.1, h.2.1, fun j hj => ?_⟩
  rw [hM _ _ (by omega)]
  exact h.2.2 j hj
theorem c_fail {fu : Nat} {k w : Int32} {A : mwM} {L : mwL} (h : A 1 12 = 0) : DX8_fail fu k w A L = some (mset (mset A 1 12 k) 1 13 w, L) := by
  unfold DX8_fail fX8_fail_b17
  rw [if_pos h, mlet_e, mlet_e]
theorem m_fail {fu : Nat} {k w : Int32} {M : mwM} {L : mwL} : DX19_fail fu k w M L = some (0, mset (mset M 732 11 k) 732 12 w, L) := by
  unfold DX19_fail
  rw [mlet_e, mlet_e]
theorem Fx_i {A M : mwM} {k w : Nat} (h1 : 1 ≤ k) (h2 : k ≤ 8) (h3 : w ≤ 6000) : Fx (mset (mset A 1 12 (sI k)) 1 13 (sI w)) (mset (mset M 732 11 (sI k)) 732 12 (sI w)) := ⟨k, w, h1, h2, h3, by rw [mset_n (by omega), mset_s], by rw [mset_n (by omega), mset_s], mset_s, mset_s⟩
theorem nf_fetch {fu : Nat} {A : mwM} {L : mwL} (h : ¬ A 1 12 = 0) : DX8_fetchWord fu A L = some (0, A, L) := by
  unfold DX8_fetchWord
  rw [if_neg h]
theorem nf_end {fu : Nat} {A : mwM} {L : mwL} (h : ¬ A 1 12 = 0) : DX8_endLine fu A L = some (A, L) := by
  unfold DX8_endLine
  rw [if_neg h]
/-- a word must come -/
theorem st_must {fu n le a : Nat} {A M : mwM} {Lc Lm : mwL} {tx : Nat → Nat} (hfu : 6100 ≤ fu) (h : Ld A M n tx le a) : ∃ A' M', fW A A' ∧ fR M M' ∧ ((nwK tx le a = true ∧ DX8_fetchWord fu A Lc = some (1, A', Lc) ∧ DX19_must fu M Lm = some (1, M', Lm) ∧ Ld A' M' n tx le (nwE tx le a) ∧ Hw A' M' (nwB tx le a) (nwE tx le a)) ∨ (DX8_fetchWord fu A Lc = some (0, A', Lc) ∧ DX19_must fu M Lm = some (0, M', Lm) ∧ Fx A' M')) := by
  obtain ⟨hC, hM, h6, h7, hle, h5, h6', ha, h12⟩ := h
  have hn := hC.2.1
  obtain ⟨A1, e1, e2, e3, e4⟩ := c_next (fu := fu) (L := Lc) hfu hC h5 h6 ha hle
  obtain ⟨M1, m1, m2, m3, m4⟩ := m_next (fu := fu) (L := Lm) hfu hM h6' h7 ha hle
  obtain ⟨b1, b2, b3, b4, b5, b6, b7, _⟩ := nw_b (tx := tx) ha
  have k12 : A1 1 12 = 0 := by rw [e4 _ _ (by omega)]; exact h12
  unfold DX8_fetchWord DX19_must fX8_fetchWord_b29 fX8_fetchWord_b41 fX19_must_b19 fX19_must_b24
  rw [if_pos h12, e1, mb2_s, m1, mb3_s]
  cases hk : nwK tx le a with
  | true =>
    obtain ⟨q1, q2, q3⟩ := e2 hk
    obtain ⟨p1, p2, p3⟩ := m2 hk
    have hlt := b5 hk
    refine ⟨A1, M1, fun x y u => e4 x y (by omega), fun x y u => m4 x y (by omega), Or.inl ⟨rfl, ?_, ?_, ⟨TxC_f hC (fun x y u => e4 x y (by omega)), TxM_f hM (fun x y u => m4 x y (by omega)), by rw [e4 _ _ (by omega)]; exact h6, by rw [m4 _ _ (by omega)]; exact h7, hle, q1, p1, b4, k12⟩, ⟨q2, q3, p2, p3, hlt⟩⟩⟩
    · rw [q3, if_neg (show ¬ sI (nwE tx le a - nwB tx le a) = 0 by rw [show (0 : Int32) = sI 0 from rfl, sI_eq (by omega) (by omega)]; omega), if_neg (show ¬ sI (nwE tx le a - nwB tx le a) ≤ 0 by rw [show (0 : Int32) = sI 0 from rfl, sI_le (by omega) (by omega)]; omega)]
      rfl
    · rw [bI_t, if_neg (by decide)]
      rfl
  | false =>
    obtain ⟨q1, q2, q3⟩ := e3 hk
    have p1 := m3 hk
    refine ⟨mset (mset A1 1 12 (sI 2)) 1 13 (sI le), mset (mset M1 732 11 (sI 2)) 732 12 (sI le), fun x y u => by rw [mset_n (by omega), mset_n (by omega), e4 x y (by omega)], fun x y u => by rw [mset_n (by omega), mset_n (by omega), m4 x y (by omega)], Or.inr ⟨?_, ?_, Fx_i (by omega) (by omega) (by omega)⟩⟩
    · rw [q3, if_pos (show sI 0 = 0 from rfl), c_fail k12, mb2_s, q2, mset_n (show ¬ (1 = 1 ∧ 9 = 13) by omega), mset_n (show ¬ (1 = 1 ∧ 9 = 12) by omega), q3, if_pos (show sI 0 ≤ 0 by decide)]
      rfl
    · rw [bI_f, if_pos rfl, m_fail, mb3_s, if_pos rfl, m4 _ _ (by omega), h7]
      rfl
/-- the line must end -/
theorem st_eol {fu n le a : Nat} {A M : mwM} {Lc Lm : mwL} {tx : Nat → Nat} (hfu : 6100 ≤ fu) (h : Ld A M n tx le a) : ∃ A' M', fW A A' ∧ fR M M' ∧ ((nwK tx le a = false ∧ DX8_endLine fu A Lc = some (A', Lc) ∧ DX19_end fu M Lm = some (1, M', Lm) ∧ Ld A' M' n tx le (nwB tx le a)) ∨ (DX8_endLine fu A Lc = some (A', Lc) ∧ DX19_end fu M Lm = some (0, M', Lm) ∧ Fx A' M')) := by
  obtain ⟨hC, hM, h6, h7, hle, h5, h6', ha, h12⟩ := h
  have hn := hC.2.1
  obtain ⟨A1, e1, e2, e3, e4⟩ := c_next (fu := fu) (L := Lc) hfu hC h5 h6 ha hle
  obtain ⟨M1, m1, m2, m3, m4⟩ := m_next (fu := fu) (L := Lm) hfu hM h6' h7 ha hle
  obtain ⟨b1, b2, b3, b4, b5, b6, b7, _⟩ := nw_b (tx := tx) ha
  have k12 : A1 1 12 = 0 := by rw [e4 _ _ (by omega)]; exact h12
  unfold DX8_endLine DX19_end fX8_endLine_b28 fX19_end_b19 fX19_end_b24
  rw [if_pos h12, e1, mb2_s, m1, mb3_s]
  cases hk : nwK tx le a with
  | true =>
    obtain ⟨q1, q2, q3⟩ := e2 hk
    obtain ⟨p1, p2, p3⟩ := m2 hk
    have hlt := b5 hk
    refine ⟨mset (mset A1 1 12 (sI 2)) 1 13 (sI (nwB tx le a)), mset (mset M1 732 11 (sI 2)) 732 12 (sI (nwB tx le a)), fun x y u => by rw [mset_n (by omega), mset_n (by omega), e4 x y (by omega)], fun x y u => by rw [mset_n (by omega), mset_n (by omega), m4 x y (by omega)], Or.inr ⟨?_, ?_, Fx_i (by omega) (by omega) (by omega)⟩⟩
    · rw [q3, if_neg (show ¬ sI (nwE tx le a - nwB tx le a) ≤ 0 by rw [show (0 : Int32) = sI 0 from rfl, sI_le (by omega) (by omega)]; omega), c_fail k12, mb2_s, q2]
      rfl
    · rw [bI_t, if_neg (by decide), m_fail, mb3_s, if_pos rfl, p2]
      rfl
  | false =>
    obtain ⟨q1, q2, q3⟩ := e3 hk
    have p1 := m3 hk
    refine ⟨A1, M1, fun x y u => e4 x y (by omega), fun x y u => m4 x y (by omega), Or.inl ⟨rfl, ?_, ?_, ⟨TxC_f hC (fun x y u => e4 x y (by omega)), TxM_f hM (fun x y u => m4 x y (by omega)), by rw [e4 _ _ (by omega)]; exact h6, by rw [m4 _ _ (by omega)]; exact h7, hle, q1, p1, b2, k12⟩⟩⟩
    · rw [q3, if_pos (show sI 0 ≤ 0 by decide)]
    · rw [bI_f, if_pos rfl]
      rfl
/-! READING: which word it is -/
def isW (tx : Nat → Nat) (w s : Nat) (W : List Nat) : Bool := decide (s = W.length ∧ ∀ i, i < s → tx (w + i) = W.getD i 0)
def eN (f : Nat → Nat) : Nat → Nat → Nat
  | _, 0 => 0
  | i, m + 1 => f i + 256 * eN f (i + 1) m
theorem en_lt {f : Nat → Nat} : ∀ m i, (∀ k, k < m → f (i + k) < 256) → eN f i m < 256 ^ m := by
  intro m
  induction m with
  | zero => intro i _; show 0 < 1; omega
  | succ m ih =>
    intro i h
    have h1 := ih (i + 1) (fun k hk => by have := h (k + 1) (by omega); rw [show i + 1 + k = i + (k + 1) from by omega]; exact this)
    have h2 := h 0 (by omega)
    rw [Nat.add_zero] at h2
    show f i + 256 * eN f (i + 1) m < 256 ^ (m + 1)
    rw [Nat.pow_succ]
    omega
theorem en_inj {f g : Nat → Nat} : ∀ m m' i j, (∀ k, k < m → 0 < f (i + k) ∧ f (i + k) < 256) → (∀ k, k < m' → 0 < g (j + k) ∧ g (j + k) < 256) → eN f i m = eN g j m' → m = m' ∧ ∀ k, k < m → f (i + k) = g (j + k) := by
  intro m
  induction m with
  | zero =>
    intro m' i j hf hg h
    cases m' with
    | zero => exact ⟨rfl, fun k hk => by omega⟩
    | succ m' =>
      have := (hg 0 (by omega)).1
      rw [Nat.add_zero] at this
      have h' : 0 = g j + 256 * eN g (j + 1) m' := h
      omega
  | succ m ih =>
    intro m' i j hf hg h
    have f0 := hf 0 (by omega)
    rw [Nat.add_zero] at f0
    cases m' with
    | zero =>
      have h' : f i + 256 * eN f (i + 1) m = 0 := h
      omega
    | succ m' =>
      have g0 := hg 0 (by omega)
      rw [Nat.add_zero] at g0
      have h' : f i + 256 * eN f (i + 1) m = g j + 256 * eN g (j + 1) m' := h
      have e0 : f i = g j := by omega
      have e1 : eN f (i + 1) m = eN g (j + 1) m' := by omega
      obtain ⟨q1, q2⟩ := ih m' (i + 1) (j + 1) (fun k hk => by have := hf (k + 1) (by omega); rw [show i + 1 + k = i + (k + 1) from by omega]; exact this) (fun k hk => by have := hg (k + 1) (by omega); rw [show j + 1 + k = j + (k + 1) from by omega]; exact this) e1
      refine ⟨by omega, fun k hk => ?_⟩
      cases k with
      | zero => rw [Nat.add_zero, Nat.add_zero]; exact e0
      | succ k => have := q2 k (by omega); rw [show i + (k + 1) = i + 1 + k from by omega, show j + (k + 1) = j + 1 + k from by omega]; exact this
theorem en_cg {f g : Nat → Nat} : ∀ m i j, (∀ k, k < m → f (i + k) = g (j + k)) → eN f i m = eN g j m := by
  intro m
  induction m with
  | zero => intro i j _; rfl
  | succ m ih =>
    intro i j h
    have h0 := h 0 (by omega)
    rw [Nat.add_zero, Nat.add_zero] at h0
    show f i + 256 * eN f (i + 1) m = g j + 256 * eN g (j + 1) m
    rw [h0, ih (i + 1) (j + 1) (fun k hk => by have := h (k + 1) (by omega); rw [show i + 1 + k = i + (k + 1) from by omega, show j + 1 + k = j + (k + 1) from by omega]; exact this)]
/-- the two numbers of a word -/
def okW (W : List Nat) (a1 a2 : Int64) : Bool := decide (1 ≤ W.length ∧ W.length ≤ 10 ∧ (∀ i, i < W.length → 0 < W.getD i 0 ∧ W.getD i 0 < 256 ∧ W.getD i 0 ≠ 32) ∧ uL a1 = eN (fun i => W.getD i 0) 0 (if W.length < 8 then W.length else 8) ∧ uL a2 = eN (fun i => W.getD i 0) 8 (W.length - 8))
theorem m_is9 {fu n w e : Nat} {a1 a2 : Int64} {W : List Nat} {tx : Nat → Nat} {M : mwM} {L : mwL} (hfu : 20 ≤ fu) (hT : TxM M n tx) (h9 : M 732 9 = sI w) (h10 : M 732 10 = sI e) (hw : w < e) (he : e ≤ n) (hW : okW W a1 a2 = true) : DX19_is fu a1 a2 M L = some (bI (isW tx w (e - w) W), M, L) := by
  have hn := hT.2.1
  obtain ⟨l1, l2, l3, l4, l5⟩ := of_decide_eq_true hW
  unfold DX19_is
  rw [h9, h10, sI_sub (by omega)]
  by_cases c10 : e - w ≤ 10
  · rw [if_pos (show sI (e - w) ≤ 10 by rw [show (10 : Int32) = sI 10 from rfl, sI_le (by omega) (by omega)]; exact c10), mlet_e]
    obtain ⟨s, hs⟩ : ∃ s, s = e - w := ⟨_, rfl⟩
    have sm1 : ∀ k : Nat, sI (k + 1) + (-1) = sI k := fun k => by rw [← sI_1, Int32.add_assoc, show (1 : Int32) + (-1) = 0 by decide, Int32.add_zero]
    have es1 : sI e - 1 = sI (w + s) + (-1) := by
      rw [show w + s = e from by omega, Int32.sub_eq_add_neg]
    rw [es1]
    have key : ∀ (r q : Nat) (v5 v7 : Int64), r ≤ s → r < q → uL v5 = eN tx (w + r) ((if s < 8 then s else 8) - r) → uL v7 = eN tx (w + (if r < 8 then 8 else r)) (s - (if r < 8 then 8 else r)) → fX19_is_h30 fu a1 a2 q (v5, v7, sI (w + r) + (-1), M, L) = some (bI (decide (uL a1 = eN tx w (if s < 8 then s else 8) ∧ uL a2 = eN tx (w + 8) (s - 8))), M, L) := by
      intro r
      induction r with
      | zero =>
        intro q v5 v7 hr hq h5 h7
        obtain ⟨q, rfl⟩ : ∃ y, q = y + 1 := ⟨q - 1, by omega⟩
        show fX19_is_i30 fu a1 a2 (fX19_is_h30 fu a1 a2 q) v5 v7 (sI (w + 0) + (-1)) M L = _
        unfold fX19_is_i30 fX19_is_b112 fX19_is_b113
        have hlt : sI (w + 0) + (-1) < M 732 9 := by
          rw [h9, Nat.add_zero]
          cases w with
          | zero => decide
          | succ w => rw [sm1, sI_lt (by omega) (by omega)]; omega
        rw [if_pos hlt]
        rw [Nat.add_zero, Nat.sub_zero] at h5
        rw [if_pos (by omega)] at h7
        rw [← h5, ← h7]
        by_cases c1 : v5 = a1
        · rw [if_pos ((lg_cmp_eq _ _).mpr c1)]
          by_cases c2 : v7 = a2
          · rw [if_pos ((lg_cmp_eq _ _).mpr c2), c1, c2, decide_eq_true ⟨rfl, rfl⟩]
            rfl
          · rw [if_neg (fun z => c2 ((lg_cmp_eq _ _).mp z)), decide_eq_false (fun z => c2 (uL_inj z.2).symm)]
            rfl
        · rw [if_neg (fun z => c1 ((lg_cmp_eq _ _).mp z)), decide_eq_false (fun z => c1 (uL_inj z.1).symm)]
          rfl
      | succ r ih =>
        intro q v5 v7 hr hq h5 h7
        obtain ⟨q, rfl⟩ : ∃ y, q = y + 1 := ⟨q - 1, by omega⟩
        show fX19_is_i30 fu a1 a2 (fX19_is_h30 fu a1 a2 q) v5 v7 (sI (w + (r + 1)) + (-1)) M L = _
        unfold fX19_is_i30 fX19_is_b88
        obtain ⟨t1, t2, t3⟩ := hT.2.2 (w + r) (by omega)
        rw [show w + (r + 1) = w + r + 1 from rfl, sm1, h9, if_neg (show ¬ sI (w + r) < sI w by rw [sI_lt (by omega) (by omega)]; omega), sI_sub (by omega), show w + r - w = r from by omega]
        have eSt : ∀ m, tx (w + r) + 256 * eN tx (w + r + 1) m = eN tx (w + r) (m + 1) := fun m => rfl
        by_cases c8 : 8 ≤ r
        · rw [if_pos (show (8 : Int32) ≤ sI r by rw [sI_lle (by decide) (by omega)]; exact c8), mck_s (by omega) (by omega), mlet_e, mlet_e, sI_nn (by omega), t1]
          rw [if_neg (by omega)] at h7
          rw [if_neg (show ¬ s < 8 by omega)] at h5
          refine ih q v5 _ (by omega) (by omega) ?_ ?_
          · rw [h5, if_neg (show ¬ s < 8 by omega), show 8 - (r + 1) = 0 from by omega, show 8 - r = 0 from by omega]
            rfl
          · have hb : uL v7 * 256 + tx (w + r) < 2 ^ 64 := by
              have := en_lt (f := tx) (s - (r + 1)) (w + (r + 1)) (fun k hk => (hT.2.2 _ (by omega)).2.2)
              rw [← h7] at this
              have : 256 ^ (s - (r + 1)) ≤ 256 ^ 2 := Nat.pow_le_pow_right (by omega) (by omega)
              omega
            rw [uL_mul t3 hb, h7, if_neg (by omega), show s - r = s - (r + 1) + 1 from by omega, ← eSt, Nat.add_comm (_ * 256), Nat.mul_comm _ 256]
            rfl
        · rw [if_neg (show ¬ (8 : Int32) ≤ sI r by rw [sI_lle (by decide) (by omega)]; exact c8), mck_s (by omega) (by omega), mlet_e, mlet_e, sI_nn (by omega), t1]
          refine ih q _ v7 (by omega) (by omega) ?_ ?_
          · have hb : uL v5 * 256 + tx (w + r) < 2 ^ 64 := by
              have := en_lt (f := tx) ((if s < 8 then s else 8) - (r + 1)) (w + (r + 1)) (fun k hk => (hT.2.2 _ (by split at hk <;> omega)).2.2)
              rw [← h5] at this
              have : 256 ^ ((if s < 8 then s else 8) - (r + 1)) ≤ 256 ^ 7 := Nat.pow_le_pow_right (by omega) (by split <;> omega)
              omega
            rw [uL_mul t3 hb, h5]
            have : (if s < 8 then s else 8) - r = (if s < 8 then s else 8) - (r + 1) + 1 := by split <;> omega
            rw [this, ← eSt, Nat.add_comm (_ * 256), Nat.mul_comm _ 256]
            rfl
          · rw [h7, if_pos (show r < 8 by omega)]
            by_cases c9 : r + 1 < 8
            · rw [if_pos c9]
            · rw [if_neg c9, show r + 1 = 8 from by omega]
    have k0 := key s fu 0 0 (Nat.le_refl _) (by omega) (by rw [show (if s < 8 then s else 8) - s = 0 by split <;> omega]; rfl) (by rw [show s - (if s < 8 then 8 else s) = 0 by split <;> omega]; rfl)
    rw [k0, ← hs]
    congr 3
    unfold isW
    refine decide_eq_decide.mpr ⟨fun z => ?_, fun z => ?_⟩
    · obtain ⟨z1, z2⟩ := z
      rw [l4] at z1
      rw [l5] at z2
      have i1 := en_inj (f := fun i => W.getD i 0) (g := tx) (if W.length < 8 then W.length else 8) (if s < 8 then s else 8) 0 w (fun k hk => by
        obtain ⟨u1, u2, _⟩ := l3 (0 + k) (by split at hk <;> omega)
        exact ⟨u1, u2⟩) (fun k hk => by
        obtain ⟨_, u1, u2⟩ := hT.2.2 (w + k) (by split at hk <;> omega)
        exact ⟨u1, u2⟩) z1
      have i2 := en_inj (f := fun i => W.getD i 0) (g := tx) (W.length - 8) (s - 8) 8 (w + 8) (fun k hk => by
        obtain ⟨u1, u2, _⟩ := l3 (8 + k) (by omega)
        exact ⟨u1, u2⟩) (fun k hk => by
        obtain ⟨_, u1, u2⟩ := hT.2.2 (w + 8 + k) (by omega)
        exact ⟨u1, u2⟩) z2
      obtain ⟨i1, i3⟩ := i1
      obtain ⟨i2, i4⟩ := i2
      have hl : s = W.length := by
        split at i1 <;> split at i1 <;> omega
      refine ⟨hl, fun i hi => ?_⟩
      by_cases ci : i < 8
      · have := i3 i (by split <;> omega)
        rw [Nat.zero_add] at this
        exact this.symm
      · have := i4 (i - 8) (by omega)
        rw [show 8 + (i - 8) = i from by omega, show w + 8 + (i - 8) = w + i from by omega] at this
        exact this.symm
    · obtain ⟨z1, z2⟩ := z
      rw [l4, l5, ← z1]
      refine ⟨en_cg _ _ _ (fun k hk => ?_), en_cg _ _ _ (fun k hk => ?_)⟩
      · rw [z2 k (by split at hk <;> omega), Nat.zero_add]
      · rw [show w + 8 + k = w + (8 + k) from by omega, z2 (8 + k) (by omega)]
  · rw [if_neg (show ¬ sI (e - w) ≤ 10 by rw [show (10 : Int32) = sI 10 from rfl, sI_le (by omega) (by omega)]; exact c10)]
    have : isW tx w (e - w) W = false := decide_eq_false (fun z => by omega)
    rw [this]
    rfl
/-! READING: the class's words -/
abbrev sln (a1 : Nat) : Nat := mw_slen.getD a1 0
theorem c_stands {fu n w s f a1 : Nat} {tx : Nat → Nat} {A : mwM} {L : mwL} (hfu : 200 ≤ fu) (hT : TxC A n tx) (h8 : A 1 8 = sI w) (h9 : A 1 9 = sI s) (hw : w + s ≤ n) (hf : f + s ≤ sln a1) (hl : sln a1 ≤ 100) : DX8_standsAt fu a1 (sI f) A L = some (bI (decide (∀ i, i < s → mw_sch a1 (sI (f + i)) = sI (tx (w + i)))), A, L) := by
  have hn := hT.2.1
  have key : ∀ (r q j : Nat), j + r = s → r < q → (∀ i, i < j → mw_sch a1 (sI (f + i)) = sI (tx (w + i))) → fX8_standsAt_h2 fu a1 (sI f) q (sI j, A, L) = some (bI (decide (∀ i, i < s → mw_sch a1 (sI (f + i)) = sI (tx (w + i)))), A, L) := by
    intro r
    induction r with
    | zero =>
      intro q j hj hq hp
      obtain ⟨q, rfl⟩ : ∃ y, q = y + 1 := ⟨q - 1, by omega⟩
      show fX8_standsAt_i2 fu a1 (sI f) (fX8_standsAt_h2 fu a1 (sI f) q) (sI j) A L = _
      unfold fX8_standsAt_i2
      rw [h9, if_pos (show sI s ≤ sI j by rw [sI_le (by omega) (by omega)]; omega), decide_eq_true (fun i hi => hp i (by omega))]
      rfl
    | succ r ih =>
      intro q j hj hq hp
      obtain ⟨q, rfl⟩ : ∃ y, q = y + 1 := ⟨q - 1, by omega⟩
      obtain ⟨t1, t2, t3⟩ := hT.2.2 (w + j) (by omega)
      show fX8_standsAt_i2 fu a1 (sI f) (fX8_standsAt_h2 fu a1 (sI f) q) (sI j) A L = _
      unfold fX8_standsAt_i2 fX8_standsAt_b41
      rw [h9, if_neg (show ¬ sI s ≤ sI j by rw [sI_le (by omega) (by omega)]; omega), sI_add, if_neg (show ¬ Int32.ofNat (mw_slen.getD a1 0) ≤ sI (f + j) by
        show ¬ sI (sln a1) ≤ sI (f + j)
        rw [sI_le (by omega) (by omega)]; omega), mck_s (n := mw_slen.getD a1 0) ((by omega : f + j < sln a1)) (by omega), h8, sI_add, mck_s (show w + j < 6000 by omega) (by omega), sI_nn (by omega), t1]
      by_cases c : mw_sch a1 (sI (f + j)) = sI (tx (w + j))
      · rw [if_pos c, mlet_e, sI_1]
        refine ih q (j + 1) (by omega) (by omega) (fun i hi => ?_)
        by_cases e : i = j
        · rw [e]; exact c
        · exact hp i (by omega)
      · rw [if_neg c, decide_eq_false (fun z => c (z j (by omega)))]
        rfl
  exact key s fu 0 (by omega) (by omega) (fun i hi => by omega)
def chB (a1 f : Nat) (W : List Nat) : Bool := decide (∀ i, i < W.length → mw_sch a1 (sI (f + i)) = sI (W.getD i 0) ∧ W.getD i 0 < 256 ∧ mw_sch a1 (sI (f + i)) ≠ 32)
theorem c_stW {fu n w f a1 : Nat} {W : List Nat} {tx : Nat → Nat} {A : mwM} {L : mwL} (hfu : 200 ≤ fu) (hT : TxC A n tx) (h8 : A 1 8 = sI w) (h9 : A 1 9 = sI W.length) (hw : w + W.length ≤ n) (hf : f + W.length ≤ sln a1) (hl : sln a1 ≤ 100) (hc : chB a1 f W = true) : DX8_standsAt fu a1 (sI f) A L = some (bI (isW tx w W.length W), A, L) := by
  have hc' := of_decide_eq_true hc
  have hn := hT.2.1
  rw [c_stands hfu hT h8 h9 hw hf hl]
  congr 3
  unfold isW
  refine decide_eq_decide.mpr ⟨fun z => ⟨rfl, fun i hi => ?_⟩, fun z i hi => ?_⟩
  · have z1 := z i hi
    obtain ⟨c1, c2, c3⟩ := hc' i hi
    obtain ⟨t1, t2, t3⟩ := hT.2.2 (w + i) (by omega)
    rw [c1, sI_eq (by omega) (by omega)] at z1
    exact z1.symm
  · obtain ⟨c1, c2, c3⟩ := hc' i hi
    rw [c1, z.2 i hi]
theorem c_isWord {fu n w s a1 : Nat} {W : List Nat} {tx : Nat → Nat} {A : mwM} {L : mwL} (hfu : 200 ≤ fu) (hT : TxC A n tx) (h8 : A 1 8 = sI w) (h9 : A 1 9 = sI s) (hw : w + s ≤ n) (hf : W.length = sln a1) (hl : sln a1 ≤ 100) (hc : chB a1 0 W = true) : DX8_isWord fu a1 A L = some (bI (isW tx w s W), A, L) := by
  have hn := hT.2.1
  unfold DX8_isWord fX8_isWord_b24 fX8_isWord_b25
  rw [h9]
  by_cases c : s = W.length
  · subst c
    have e0 := c_stW (f := 0) (L := L) hfu hT h8 h9 hw (by omega) hl hc
    rw [if_pos (show Int32.ofNat (mw_slen.getD a1 0) = sI W.length by rw [hf]; rfl), show (0 : Int32) = sI 0 from rfl, e0, mb3_s]
    cases isW tx w W.length W with
    | true => rw [bI_t, if_neg (by decide)]; rfl
    | false => rw [bI_f, if_pos (by rfl)]; rfl
  · rw [if_neg (show ¬ Int32.ofNat (mw_slen.getD a1 0) = sI s by
      show ¬ sI (sln a1) = sI s
      rw [sI_eq (by omega) (by omega)]; omega)]
    have : isW tx w s W = false := decide_eq_false (fun z => c z.1)
    rw [this]
    rfl
/-- one of the words of a row of words -/
theorem c_idx1 {fu n w s f j a1 : Nat} {W : List Nat} {tx : Nat → Nat} {A : mwM} {L : mwL} (hfu : 200 ≤ fu) (hT : TxC A n tx) (h8 : A 1 8 = sI w) (h9 : A 1 9 = sI s) (hw : w + s ≤ n) (hf : f + W.length = sln a1 ∨ (f + W.length < sln a1 ∧ mw_sch a1 (sI (f + W.length)) = 32)) (hl : sln a1 ≤ 100) (hc : chB a1 f W = true) : ∀ (r q i : Nat), i + r = W.length → fX8_indexIn_h7 fu a1 (q + 1 + r) (sI j, sI f, sI (f + i), A, L) = if isW tx w s W = true then some (sI j, A, L) else fX8_indexIn_h7 fu a1 q (sI (j + 1), sI (f + W.length + 1), sI (f + W.length + 1), A, L) := by
  have hn := hT.2.1
  have hc' := of_decide_eq_true hc
  intro r
  induction r with
  | zero =>
    intro q i hi
    have ei : i = W.length := by omega
    subst ei
    show fX8_indexIn_i7 fu a1 (fX8_indexIn_h7 fu a1 q) (sI j) (sI f) (sI (f + W.length)) A L = _
    generalize fX8_indexIn_h7 fu a1 q = H
    unfold fX8_indexIn_i7
    rw [if_neg (show ¬ Int32.ofNat (mw_slen.getD a1 0) < sI (f + W.length) by
      show ¬ sI (sln a1) < sI (f + W.length)
      rw [sI_lt (by omega) (by omega)]; omega)]
    have b36 : fX8_indexIn_b36 fu a1 H (sI j) (sI f) (sI (f + W.length)) A L = if isW tx w s W = true then some (sI j, A, L) else H (sI (j + 1), sI (f + W.length + 1), sI (f + W.length + 1), A, L) := by
      unfold fX8_indexIn_b36 fX8_indexIn_b58 fX8_indexIn_b66
      rw [sI_sub (by omega), show f + W.length - f = W.length from by omega, h9]
      by_cases cs : s = W.length
      · subst cs
        rw [if_pos rfl, c_stW hfu hT h8 h9 hw (by omega) hl hc, mb3_s]
        cases isW tx w W.length W with
        | true => rw [bI_t, if_neg (by decide), if_pos rfl]
        | false => rw [bI_f, if_pos (by rfl), if_neg (by decide), mlet_e, mlet_e, mlet_e, sI_1, sI_1]
      · have : isW tx w s W = false := decide_eq_false (fun z => cs z.1)
        rw [if_neg (show ¬ sI W.length = sI s by rw [sI_eq (by omega) (by omega)]; omega), this, if_neg (by decide), mlet_e, mlet_e, mlet_e, sI_1, sI_1]
    rcases hf with h1 | ⟨h1, h2⟩
    · rw [if_pos (show sI (f + W.length) = Int32.ofNat (mw_slen.getD a1 0) by rw [h1]; rfl)]
      exact b36
    · rw [if_neg (show ¬ sI (f + W.length) = Int32.ofNat (mw_slen.getD a1 0) by
        show ¬ sI (f + W.length) = sI (sln a1)
        rw [sI_eq (by omega) (by omega)]; omega), mck_s (n := mw_slen.getD a1 0) ((by omega : f + W.length < sln a1)) (by omega), h2, if_pos rfl]
      exact b36
  | succ r ih =>
    intro q i hi
    obtain ⟨c1, c2, c3⟩ := hc' i (by omega)
    have hlt : f + i < sln a1 := by omega
    show fX8_indexIn_i7 fu a1 (fX8_indexIn_h7 fu a1 (q + 1 + r)) (sI j) (sI f) (sI (f + i)) A L = _
    rw [← ih q (i + 1) (by omega)]
    generalize fX8_indexIn_h7 fu a1 (q + 1 + r) = H
    unfold fX8_indexIn_i7 fX8_indexIn_b66
    rw [if_neg (show ¬ Int32.ofNat (mw_slen.getD a1 0) < sI (f + i) by
      show ¬ sI (sln a1) < sI (f + i)
      rw [sI_lt (by omega) (by omega)]; omega), if_neg (show ¬ sI (f + i) = Int32.ofNat (mw_slen.getD a1 0) by
      show ¬ sI (f + i) = sI (sln a1)
      rw [sI_eq (by omega) (by omega)]; omega), mck_s (n := mw_slen.getD a1 0) ((by omega : f + i < sln a1)) (by omega), if_neg c3, mlet_e, sI_1]
    rfl
def wsB (a1 : Nat) : Nat → List (List Nat) → Bool
  | f, [] => decide (f = sln a1 + 1)
  | f, W :: R => chB a1 f W && (decide (f + W.length = sln a1) || (decide (f + W.length < sln a1) && decide (mw_sch a1 (sI (f + W.length)) = 32))) && wsB a1 (f + W.length + 1) R
def idxW (tx : Nat → Nat) (w s : Nat) : List (List Nat) → Nat → Int32
  | [], _ => -1
  | W :: R, j => if isW tx w s W = true then sI j else idxW tx w s R (j + 1)
theorem c_idxL {fu n w s a1 : Nat} {tx : Nat → Nat} {A : mwM} {L : mwL} (hfu : 200 ≤ fu) (hT : TxC A n tx) (h8 : A 1 8 = sI w) (h9 : A 1 9 = sI s) (hw : w + s ≤ n) (hl : sln a1 ≤ 100) : ∀ (Ws : List (List Nat)) (f j q : Nat), wsB a1 f Ws = true → sln a1 + 2 < q + f → fX8_indexIn_h7 fu a1 q (sI j, sI f, sI f, A, L) = some (idxW tx w s Ws j, A, L) := by
  intro Ws
  induction Ws with
  | nil =>
    intro f j q hs hq
    have ef : f = sln a1 + 1 := of_decide_eq_true hs
    obtain ⟨q, rfl⟩ : ∃ y, q = y + 1 := ⟨q - 1, by omega⟩
    show fX8_indexIn_i7 fu a1 (fX8_indexIn_h7 fu a1 q) (sI j) (sI f) (sI f) A L = _
    unfold fX8_indexIn_i7
    rw [if_pos (show Int32.ofNat (mw_slen.getD a1 0) < sI f by
      show sI (sln a1) < sI f
      rw [sI_lt (by omega) (by omega)]; omega)]
    rfl
  | cons W R ih =>
    intro f j q hs hq
    unfold wsB at hs
    rw [Bool.and_eq_true, Bool.and_eq_true, Bool.or_eq_true, Bool.and_eq_true] at hs
    obtain ⟨⟨s1, s2⟩, s3⟩ := hs
    have s2' : f + W.length = sln a1 ∨ (f + W.length < sln a1 ∧ mw_sch a1 (sI (f + W.length)) = 32) := by
      rcases s2 with u | ⟨u1, u2⟩
      · exact Or.inl (of_decide_eq_true u)
      · exact Or.inr ⟨of_decide_eq_true u1, of_decide_eq_true u2⟩
    obtain ⟨q', hq'⟩ : ∃ q', q = q' + 1 + W.length := ⟨q - 1 - W.length, by omega⟩
    have st := c_idx1 (fu := fu) (j := j) (L := L) hfu hT h8 h9 hw s2' hl s1 W.length q' 0 (by omega)
    rw [show f + 0 = f from rfl] at st
    rw [hq', st]
    show _ = some (if isW tx w s W = true then sI j else idxW tx w s R (j + 1), A, L)
    cases isW tx w s W with
    | true => rw [if_pos rfl, if_pos rfl]
    | false => rw [if_neg (by decide), if_neg (by decide)]; exact ih (f + W.length + 1) (j + 1) q' s3 (by omega)
theorem c_indexIn {fu n w s a1 : Nat} {tx : Nat → Nat} {A : mwM} {L : mwL} (Ws : List (List Nat)) (hfu : 200 ≤ fu) (hT : TxC A n tx) (h8 : A 1 8 = sI w) (h9 : A 1 9 = sI s) (hw : w + s ≤ n) (hl : sln a1 ≤ 100) (hs : wsB a1 0 Ws = true) : DX8_indexIn fu a1 A L = some (idxW tx w s Ws 0, A, L) := by
  have := c_idxL (L := L) hfu hT h8 h9 hw hl Ws 0 0 fu hs (by omega)
  exact this
def wLines : List (List Nat) := [[99, 111, 110, 116, 114, 111, 108, 108, 101, 114], [116, 97, 115, 107], [99, 104, 97, 114, 116], [115, 116, 97, 116, 101], [101, 100, 103, 101], [97, 102, 116, 101, 114], [100, 97, 116, 117, 109], [101, 110, 116, 101, 114], [108, 101, 97, 118, 101], [116, 97, 107, 101], [115, 105, 103, 110, 97, 108], [112, 114, 111, 116, 101, 99, 116], [114, 101, 97, 100], [119, 97, 116, 99, 104]]
def wKinds : List (List Nat) := [[112, 108, 97, 105, 110], [115, 112, 108, 105, 116], [104, 105, 115, 116, 111, 114, 121], [100, 101, 101, 112], [102, 111, 114, 107], [106, 111, 105, 110]]
def wOps : List (List Nat) := [[101, 113], [110, 101], [108, 116], [103, 101], [100, 105, 118], [109, 111, 100]]
theorem st_lines : wsB 0 0 wLines = true := by decide +kernel
theorem st_kinds : wsB 1 0 wKinds = true := by decide +kernel
theorem st_ops : wsB 3 0 wOps = true := by decide +kernel
theorem ch_if : chB 2 0 [105, 102] = true := by decide +kernel
theorem ch_more : chB 4 0 [109, 111, 114, 101] = true := by decide +kernel
theorem ch_turned : chB 5 0 [116, 117, 114, 110, 101, 100] = true := by decide +kernel
theorem ch_top : chB 6 0 [116, 111, 112] = true := by decide +kernel
theorem ch_time : chB 7 0 [116, 105, 109, 101] = true := by decide +kernel
/-! READING: names and numbers -/
def ltA (c : Nat) : Bool := decide (97 ≤ c ∧ c ≤ 122)
def dgt (c : Nat) : Bool := decide (48 ≤ c ∧ c ≤ 57)
theorem c_letter {fu c : Nat} {A : mwM} {L : mwL} (h : c < 256) : DX8_isLetter fu (sI c) A L = some (bI (ltA c), A, L) := by
  unfold DX8_isLetter fX8_isLetter_b16 fX8_isLetter_b17 ltA
  by_cases c1 : c < 97
  · rw [if_pos (show sI c < 97 by rw [show (97 : Int32) = sI 97 from rfl, sI_lt (by omega) (by omega)]; exact c1), decide_eq_false (by omega)]
    rfl
  · rw [if_neg (show ¬ sI c < 97 by rw [show (97 : Int32) = sI 97 from rfl, sI_lt (by omega) (by omega)]; exact c1)]
    by_cases c2 : 122 < c
    · rw [if_pos (show 122 < sI c by rw [show (122 : Int32) = sI 122 from rfl, sI_lt (by omega) (by omega)]; exact c2), decide_eq_false (by omega)]
      rfl
    · rw [if_neg (show ¬ 122 < sI c by rw [show (122 : Int32) = sI 122 from rfl, sI_lt (by omega) (by omega)]; exact c2), decide_eq_true (by omega)]
      rfl
theorem c_digit {fu c : Nat} {A : mwM} {L : mwL} (h : c < 256) : DX8_isDigit fu (sI c) A L = some (bI (dgt c), A, L) := by
  unfold DX8_isDigit fX8_isDigit_b16 fX8_isDigit_b17 dgt
  by_cases c1 : c < 48
  · rw [if_pos (show sI c < 48 by rw [show (48 : Int32) = sI 48 from rfl, sI_lt (by omega) (by omega)]; exact c1), decide_eq_false (by omega)]
    rfl
  · rw [if_neg (show ¬ sI c < 48 by rw [show (48 : Int32) = sI 48 from rfl, sI_lt (by omega) (by omega)]; exact c1)]
    by_cases c2 : 57 < c
    · rw [if_pos (show 57 < sI c by rw [show (57 : Int32) = sI 57 from rfl, sI_lt (by omega) (by omega)]; exact c2), decide_eq_false (by omega)]
      rfl
    · rw [if_neg (show ¬ 57 < sI c by rw [show (57 : Int32) = sI 57 from rfl, sI_lt (by omega) (by omega)]; exact c2), decide_eq_true (by omega)]
      rfl
theorem m_letter {fu c : Nat} {A : mwM} {L : mwL} (h : c < 256) : DX19_letter fu (sI c) A L = some (bI (ltA c), A, L) := c_letter (fu := fu) h
theorem m_digit {fu c : Nat} {A : mwM} {L : mwL} (h : c < 256) : DX19_digit fu (sI c) A L = some (bI (dgt c), A, L) := c_digit (fu := fu) h
def nmB (tx : Nat → Nat) (w s : Nat) : Bool := decide (1 ≤ s ∧ s ≤ 10 ∧ ltA (tx w) = true ∧ ∀ i, i < s → (ltA (tx (w + i)) || dgt (tx (w + i))) = true)
theorem c_isName {fu n w s : Nat} {tx : Nat → Nat} {A : mwM} {L : mwL} (hfu : 20 ≤ fu) (hT : TxC A n tx) (h8 : A 1 8 = sI w) (h9 : A 1 9 = sI s) (hw : w + s ≤ n) : DX8_isName fu A L = some (bI (nmB tx w s), A, L) := by
  have hn := hT.2.1
  unfold DX8_isName fX8_isName_b32
  rw [h9, h8]
  by_cases c1 : s < 1
  · have : nmB tx w s = false := decide_eq_false (by omega)
    rw [if_pos (show sI s < 1 by rw [show (1 : Int32) = sI 1 from rfl, sI_lt (by omega) (by omega)]; exact c1), this]
    rfl
  · rw [if_neg (show ¬ sI s < 1 by rw [show (1 : Int32) = sI 1 from rfl, sI_lt (by omega) (by omega)]; exact c1)]
    by_cases c2 : 10 < s
    · have : nmB tx w s = false := decide_eq_false (by omega)
      rw [if_pos (show 10 < sI s by rw [show (10 : Int32) = sI 10 from rfl, sI_lt (by omega) (by omega)]; exact c2), this]
      rfl
    · obtain ⟨t1, t2, t3⟩ := hT.2.2 w (by omega)
      rw [if_neg (show ¬ 10 < sI s by rw [show (10 : Int32) = sI 10 from rfl, sI_lt (by omega) (by omega)]; exact c2), mck_s (by omega) (by omega), sI_nn (by omega), t1, c_letter t3, mb3_s]
      cases hl : ltA (tx w) with
      | false =>
        have : nmB tx w s = false := decide_eq_false (fun z => by rw [hl] at z; exact absurd z.2.2.1 (by decide))
        rw [bI_f, if_pos (show (0 : Int32) = 0 from rfl), this]
        rfl
      | true =>
        rw [bI_t, if_neg (show ¬ (1 : Int32) = 0 by decide)]
        have key : ∀ (r q i : Nat), i + r = s → r < q → (∀ j, j < i → (ltA (tx (w + j)) || dgt (tx (w + j))) = true) → fX8_isName_h36 fu q (sI i, A, L) = some (bI (nmB tx w s), A, L) := by
          intro r
          induction r with
          | zero =>
            intro q i hi hq hp
            obtain ⟨q, rfl⟩ : ∃ y, q = y + 1 := ⟨q - 1, by omega⟩
            have : nmB tx w s = true := decide_eq_true ⟨by omega, by omega, hl, fun j hj => hp j (by omega)⟩
            show fX8_isName_i36 fu (fX8_isName_h36 fu q) (sI i) A L = _
            unfold fX8_isName_i36
            rw [h9, if_pos (show sI s ≤ sI i by rw [sI_le (by omega) (by omega)]; omega), this]
            rfl
          | succ r ih =>
            intro q i hi hq hp
            obtain ⟨q, rfl⟩ : ∃ y, q = y + 1 := ⟨q - 1, by omega⟩
            obtain ⟨t1, t2, t3⟩ := hT.2.2 (w + i) (by omega)
            have nx : (ltA (tx (w + i)) || dgt (tx (w + i))) = true → fX8_isName_h36 fu q (sI (i + 1), A, L) = some (bI (nmB tx w s), A, L) := fun hz => ih q (i + 1) (by omega) (by omega) (fun j hj => by
              by_cases e : j = i
              · rw [e]; exact hz
              · exact hp j (by omega))
            show fX8_isName_i36 fu (fX8_isName_h36 fu q) (sI i) A L = _
            generalize hH : fX8_isName_h36 fu q = H at nx
            unfold fX8_isName_i36 fX8_isName_b80
            rw [h9, if_neg (show ¬ sI s ≤ sI i by rw [sI_le (by omega) (by omega)]; omega), h8, sI_add, mck_s (by omega) (by omega), sI_nn (by omega), t1, c_letter t3, mb3_s]
            cases h1 : ltA (tx (w + i)) with
            | true =>
              rw [bI_t, if_neg (show ¬ (1 : Int32) = 0 by decide), mlet_e, sI_1]
              exact nx (by rw [h1]; rfl)
            | false =>
              rw [bI_f, if_pos (show (0 : Int32) = 0 from rfl), h8, sI_add, mck_s (by omega) (by omega), sI_nn (by omega), t1, c_digit t3, mb3_s]
              cases h2 : dgt (tx (w + i)) with
              | true =>
                rw [bI_t, if_neg (show ¬ (1 : Int32) = 0 by decide), mlet_e, sI_1]
                exact nx (by rw [h2, Bool.or_true])
              | false =>
                have : nmB tx w s = false := decide_eq_false (fun z => by have := z.2.2.2 i (by omega); rw [h1, h2] at this; exact absurd this (by decide))
                rw [bI_f, if_pos (show (0 : Int32) = 0 from rfl), this]
                rfl
        exact key (s - 1) fu 1 (by omega) (by omega) (fun j hj => by rw [show j = 0 from by omega, Nat.add_zero, hl]; rfl)
theorem m_isName {fu n w e : Nat} {tx : Nat → Nat} {M : mwM} {L : mwL} (hfu : 6100 ≤ fu) (hT : TxM M n tx) (h9 : M 732 9 = sI w) (h10 : M 732 10 = sI e) (hw : w < e) (he : e ≤ n) : DX19_isName fu M L = some (bI (nmB tx w (e - w)), M, L) := by
  have hn := hT.2.1
  obtain ⟨t1, t2, t3⟩ := hT.2.2 w (by omega)
  have kF : ∀ (r q i : Nat), i + r = e → r < q → fX19_isName_h40 fu q (0, sI i, M, L) = some (0, M, L) := by
    intro r
    induction r with
    | zero =>
      intro q i hi hq
      obtain ⟨q, rfl⟩ : ∃ y, q = y + 1 := ⟨q - 1, by omega⟩
      show fX19_isName_i40 fu (fX19_isName_h40 fu q) 0 (sI i) M L = _
      unfold fX19_isName_i40
      rw [h10, if_pos (show sI e ≤ sI i by rw [sI_le (by omega) (by omega)]; omega)]
      rfl
    | succ r ih =>
      intro q i hi hq
      obtain ⟨q, rfl⟩ : ∃ y, q = y + 1 := ⟨q - 1, by omega⟩
      show fX19_isName_i40 fu (fX19_isName_h40 fu q) 0 (sI i) M L = _
      have nx := ih q (i + 1) (by omega) (by omega)
      generalize hH : fX19_isName_h40 fu q = H at nx
      unfold fX19_isName_i40 fX19_isName_b80 fX19_isName_b81
      rw [h10, if_neg (show ¬ sI e ≤ sI i by rw [sI_le (by omega) (by omega)]; omega), if_pos (show (0 : Int32) = 0 from rfl), mlet_e, sI_1]
      exact nx
  have kT : ∀ (r q i : Nat), i + r = e → r < q → w ≤ i → e - w ≤ 10 → ltA (tx w) = true → (∀ j, w ≤ j → j < i → (ltA (tx j) || dgt (tx j)) = true) → fX19_isName_h40 fu q (1, sI i, M, L) = some (bI (nmB tx w (e - w)), M, L) := by
    intro r
    induction r with
    | zero =>
      intro q i hi hq hwi h10' hl hp
      obtain ⟨q, rfl⟩ : ∃ y, q = y + 1 := ⟨q - 1, by omega⟩
      have : nmB tx w (e - w) = true := decide_eq_true ⟨by omega, h10', hl, fun j hj => hp (w + j) (by omega) (by omega)⟩
      show fX19_isName_i40 fu (fX19_isName_h40 fu q) 1 (sI i) M L = _
      unfold fX19_isName_i40
      rw [h10, if_pos (show sI e ≤ sI i by rw [sI_le (by omega) (by omega)]; omega), this]
      rfl
    | succ r ih =>
      intro q i hi hq hwi h10' hl hp
      obtain ⟨q, rfl⟩ : ∃ y, q = y + 1 := ⟨q - 1, by omega⟩
      obtain ⟨u1, u2, u3⟩ := hT.2.2 i (by omega)
      have nx : (ltA (tx i) || dgt (tx i)) = true → fX19_isName_h40 fu q (1, sI (i + 1), M, L) = some (bI (nmB tx w (e - w)), M, L) := fun hz => ih q (i + 1) (by omega) (by omega) (by omega) h10' hl (fun j hj1 hj2 => by
        by_cases ee : j = i
        · rw [ee]; exact hz
        · exact hp j hj1 (by omega))
      have nf := kF r q (i + 1) (by omega) (by omega)
      show fX19_isName_i40 fu (fX19_isName_h40 fu q) 1 (sI i) M L = _
      generalize hH : fX19_isName_h40 fu q = H at nx nf
      unfold fX19_isName_i40 fX19_isName_b80 fX19_isName_b76 fX19_isName_b81
      rw [h10, if_neg (show ¬ sI e ≤ sI i by rw [sI_le (by omega) (by omega)]; omega), if_neg (show ¬ (1 : Int32) = 0 by decide), mck_s (by omega) (by omega), sI_nn (by omega), u1, m_letter u3, mb3_s]
      cases h1 : ltA (tx i) with
      | true =>
        rw [bI_t, if_neg (show ¬ (1 : Int32) = 0 by decide), mlet_e, sI_1]
        exact nx (by rw [h1]; rfl)
      | false =>
        rw [bI_f, if_pos (show (0 : Int32) = 0 from rfl), mck_s (by omega) (by omega), u1, m_digit u3, mb3_s]
        cases h2 : dgt (tx i) with
        | true =>
          rw [bI_t, if_neg (show ¬ (1 : Int32) = 0 by decide), mlet_e, sI_1]
          exact nx (by rw [h2, Bool.or_true])
        | false =>
          have : nmB tx w (e - w) = false := decide_eq_false (fun z => by have := z.2.2.2 (i - w) (by omega); rw [show w + (i - w) = i from by omega, h1, h2] at this; exact absurd this (by decide))
          rw [bI_f, if_pos (show (0 : Int32) = 0 from rfl), mlet_e, sI_1, this]
          exact nf
  unfold DX19_isName fX19_isName_b33 fX19_isName_b34
  rw [h9, h10, sI_sub (by omega), mlet_e]
  by_cases c2 : 10 < e - w
  · have : nmB tx w (e - w) = false := decide_eq_false (by omega)
    rw [if_pos (show 10 < sI (e - w) by rw [show (10 : Int32) = sI 10 from rfl, sI_lt (by omega) (by omega)]; exact c2), this]
    exact kF (e - w) fu w (by omega) (by omega)
  · rw [if_neg (show ¬ 10 < sI (e - w) by rw [show (10 : Int32) = sI 10 from rfl, sI_lt (by omega) (by omega)]; exact c2), mck_s (by omega) (by omega), sI_nn (by omega), t1, m_letter t3, mb3_s]
    cases hl : ltA (tx w) with
    | false =>
      have : nmB tx w (e - w) = false := decide_eq_false (fun z => by rw [hl] at z; exact absurd z.2.2.1 (by decide))
      rw [bI_f, if_pos (show (0 : Int32) = 0 from rfl), h9, mlet_e, this]
      exact kF (e - w) fu w (by omega) (by omega)
    | true =>
      rw [bI_t, if_neg (show ¬ (1 : Int32) = 0 by decide), h9, mlet_e]
      exact kT (e - w) fu w (by omega) (by omega) (by omega) (by omega) hl (fun j u1 u2 => by omega)
/-! READING: numbers -/
def sgN (tx : Nat → Nat) (w : Nat) : Nat := if tx w = 45 then 1 else 0
def nuB (tx : Nat → Nat) (w s : Nat) : Bool := decide (sgN tx w < s ∧ s - sgN tx w ≤ 9 ∧ ∀ i, i < s - sgN tx w → dgt (tx (w + sgN tx w + i)) = true)
def hvN (tx : Nat → Nat) (b : Nat) : Nat → Nat
  | 0 => 0
  | m + 1 => 10 * hvN tx b m + (tx (b + m) - 48)
def nuV (tx : Nat → Nat) (w s : Nat) : Int32 := if tx w = 45 then -(sI (hvN tx (w + sgN tx w) (s - sgN tx w))) else sI (hvN tx (w + sgN tx w) (s - sgN tx w))
theorem hv_lt {tx : Nat → Nat} {b : Nat} : ∀ m, (∀ i, i < m → dgt (tx (b + i)) = true) → hvN tx b m < 10 ^ m := by
  intro m
  induction m with
  | zero => intro _; show 0 < 1; omega
  | succ m ih =>
    intro h
    have h1 := ih (fun i hi => h i (by omega))
    have h2 := of_decide_eq_true (h m (by omega))
    show 10 * hvN tx b m + (tx (b + m) - 48) < 10 ^ (m + 1)
    rw [Nat.pow_succ]
    omega
theorem sI_45 {x : Nat} (h : x < 256) : (sI x = 45) ↔ x = 45 := by rw [show (45 : Int32) = sI 45 from rfl, sI_eq (by omega) (by omega)]
theorem c_isNumber {fu n w s : Nat} {tx : Nat → Nat} {A : mwM} {L : mwL} (hfu : 20 ≤ fu) (hT : TxC A n tx) (h8 : A 1 8 = sI w) (h9 : A 1 9 = sI s) (hs : 1 ≤ s) (hw : w + s ≤ n) : DX8_isNumber fu A L = some (bI (nuB tx w s), A, L) := by
  have hn := hT.2.1
  obtain ⟨t1, t2, t3⟩ := hT.2.2 w (by omega)
  have b26 : fX8_isNumber_b26 fu (sI (sgN tx w)) A L = some (bI (nuB tx w s), A, L) := by
    have hg : sgN tx w ≤ 1 := by unfold sgN; split <;> omega
    unfold fX8_isNumber_b26 fX8_isNumber_b48
    rw [h9, sI_sub (by omega)]
    by_cases c1 : s - sgN tx w < 1
    · have : nuB tx w s = false := decide_eq_false (by omega)
      rw [if_pos (show sI (s - sgN tx w) < 1 by rw [show (1 : Int32) = sI 1 from rfl, sI_lt (by omega) (by omega)]; exact c1), this]
      rfl
    · rw [if_neg (show ¬ sI (s - sgN tx w) < 1 by rw [show (1 : Int32) = sI 1 from rfl, sI_lt (by omega) (by omega)]; exact c1)]
      by_cases c2 : s - sgN tx w ≤ 9
      · rw [if_pos (show sI (s - sgN tx w) ≤ 9 by rw [show (9 : Int32) = sI 9 from rfl, sI_le (by omega) (by omega)]; exact c2)]
        have key : ∀ (r q i : Nat), i + r = s → r < q → sgN tx w ≤ i → (∀ j, j < i - sgN tx w → dgt (tx (w + sgN tx w + j)) = true) → fX8_isNumber_h52 fu q (sI i, A, L) = some (bI (nuB tx w s), A, L) := by
          intro r
          induction r with
          | zero =>
            intro q i hi hq hgi hp
            obtain ⟨q, rfl⟩ : ∃ y, q = y + 1 := ⟨q - 1, by omega⟩
            have : nuB tx w s = true := decide_eq_true ⟨by omega, by omega, fun j hj => hp j (by omega)⟩
            show fX8_isNumber_i52 fu (fX8_isNumber_h52 fu q) (sI i) A L = _
            unfold fX8_isNumber_i52
            rw [h9, if_pos (show sI s ≤ sI i by rw [sI_le (by omega) (by omega)]; omega), this]
            rfl
          | succ r ih =>
            intro q i hi hq hgi hp
            obtain ⟨q, rfl⟩ : ∃ y, q = y + 1 := ⟨q - 1, by omega⟩
            obtain ⟨u1, u2, u3⟩ := hT.2.2 (w + i) (by omega)
            show fX8_isNumber_i52 fu (fX8_isNumber_h52 fu q) (sI i) A L = _
            unfold fX8_isNumber_i52
            rw [h9, if_neg (show ¬ sI s ≤ sI i by rw [sI_le (by omega) (by omega)]; omega), h8, sI_add, mck_s (by omega) (by omega), sI_nn (by omega), u1, c_digit u3, mb3_s]
            cases hd : dgt (tx (w + i)) with
            | true =>
              rw [bI_t, if_neg (show ¬ (1 : Int32) = 0 by decide), mlet_e, sI_1]
              refine ih q (i + 1) (by omega) (by omega) (by omega) (fun j hj => ?_)
              by_cases ee : j = i - sgN tx w
              · rw [ee, show w + sgN tx w + (i - sgN tx w) = w + i from by omega]; exact hd
              · exact hp j (by omega)
            | false =>
              have : nuB tx w s = false := decide_eq_false (fun z => by have := z.2.2 (i - sgN tx w) (by omega); rw [show w + sgN tx w + (i - sgN tx w) = w + i from by omega, hd] at this; exact absurd this (by decide))
              rw [bI_f, if_pos (show (0 : Int32) = 0 from rfl), this]
              rfl
        exact key (s - sgN tx w) fu (sgN tx w) (by omega) (by omega) (Nat.le_refl _) (fun j hj => by omega)
      · have : nuB tx w s = false := decide_eq_false (by omega)
        rw [if_neg (show ¬ sI (s - sgN tx w) ≤ 9 by rw [show (9 : Int32) = sI 9 from rfl, sI_le (by omega) (by omega)]; exact c2), this]
        rfl
  rw [← b26]
  unfold DX8_isNumber fX8_isNumber_b25
  rw [h9, if_neg (show ¬ sI s ≤ 0 by rw [show (0 : Int32) = sI 0 from rfl, sI_le (by omega) (by omega)]; omega), h8, mck_s (by omega) (by omega), sI_nn (by omega), t1]
  by_cases c : tx w = 45
  · rw [if_pos (show sI (tx w) = 45 by rw [c]; rfl), show sgN tx w = 1 from if_pos c]
    rfl
  · rw [if_neg (show ¬ sI (tx w) = 45 by rw [sI_45 t3]; exact c), show sgN tx w = 0 from if_neg c]
    rfl
theorem c_numberAtHand {fu n w s : Nat} {tx : Nat → Nat} {A : mwM} {L : mwL} (hfu : 20 ≤ fu) (hT : TxC A n tx) (h8 : A 1 8 = sI w) (h9 : A 1 9 = sI s) (hs : 1 ≤ s) (hw : w + s ≤ n) (hb : nuB tx w s = true) : DX8_numberAtHand fu A L = some (nuV tx w s, A, L) := by
  have hn := hT.2.1
  obtain ⟨t1, t2, t3⟩ := hT.2.2 w (by omega)
  obtain ⟨b1, b2, b3⟩ := of_decide_eq_true hb
  have key : ∀ (r q m : Nat) (v1 : Int32), m + r = s - sgN tx w → r < q → fX8_numberAtHand_h24 fu q (v1, sI (hvN tx (w + sgN tx w) m), sI (sgN tx w + m), A, L) = some (if v1 = 1 then -(sI (hvN tx (w + sgN tx w) (s - sgN tx w))) else sI (hvN tx (w + sgN tx w) (s - sgN tx w)), A, L) := by
    intro r
    induction r with
    | zero =>
      intro q m v1 hm hq
      obtain ⟨q, rfl⟩ : ∃ y, q = y + 1 := ⟨q - 1, by omega⟩
      show fX8_numberAtHand_i24 fu (fX8_numberAtHand_h24 fu q) v1 (sI (hvN tx (w + sgN tx w) m)) (sI (sgN tx w + m)) A L = _
      unfold fX8_numberAtHand_i24 fX8_numberAtHand_b69
      rw [h9, if_pos (show sI s ≤ sI (sgN tx w + m) by rw [sI_le (by omega) (by omega)]; omega), show m = s - sgN tx w from by omega]
      by_cases c : v1 = 1
      · rw [if_pos c, if_pos c]
      · rw [if_neg c, if_neg c]
    | succ r ih =>
      intro q m v1 hm hq
      obtain ⟨q, rfl⟩ : ∃ y, q = y + 1 := ⟨q - 1, by omega⟩
      obtain ⟨u1, u2, u3⟩ := hT.2.2 (w + (sgN tx w + m)) (by omega)
      have hd := of_decide_eq_true (b3 m (by omega))
      rw [show w + sgN tx w + m = w + (sgN tx w + m) from by omega] at hd
      show fX8_numberAtHand_i24 fu (fX8_numberAtHand_h24 fu q) v1 (sI (hvN tx (w + sgN tx w) m)) (sI (sgN tx w + m)) A L = _
      unfold fX8_numberAtHand_i24
      rw [h9, if_neg (show ¬ sI s ≤ sI (sgN tx w + m) by rw [sI_le (by omega) (by omega)]; omega), h8, sI_add, mck_s (by omega) (by omega), sI_nn (by omega), u1, mlet_e, mlet_e, show sI (tx (w + (sgN tx w + m))) - 48 = sI (tx (w + (sgN tx w + m)) - 48) from sI_sub (b := 48) (by omega), show (10 : Int32) * sI (hvN tx (w + sgN tx w) m) = sI (10 * hvN tx (w + sgN tx w) m) from sI_lml, sI_add, sI_1]
      have := ih q (m + 1) v1 (by omega) (by omega)
      rw [show hvN tx (w + sgN tx w) (m + 1) = 10 * hvN tx (w + sgN tx w) m + (tx (w + (sgN tx w + m)) - 48) from by rw [← Nat.add_assoc]; rfl, show sgN tx w + (m + 1) = sgN tx w + m + 1 from rfl] at this
      exact this
  have k0 := key (s - sgN tx w) fu 0 (sI (sgN tx w)) (by omega) (by omega)
  unfold DX8_numberAtHand fX8_numberAtHand_b19 nuV
  rw [h8, mck_s (by omega) (by omega), sI_nn (by omega), t1]
  by_cases c : tx w = 45
  · rw [show sgN tx w = 1 from if_pos c] at k0 ⊢
    rw [if_pos (show sI (tx w) = 45 by rw [c]; rfl), if_pos c]
    rw [if_pos (show sI 1 = 1 from rfl)] at k0
    exact k0
  · rw [show sgN tx w = 0 from if_neg c] at k0 ⊢
    rw [if_neg (show ¬ sI (tx w) = 45 by rw [sI_45 t3]; exact c), if_neg c]
    rw [if_neg (show ¬ sI 0 = 1 by decide)] at k0
    exact k0
/-! READING: numbers of the reference; a number must come -/
theorem m_isNumber {fu n w e : Nat} {tx : Nat → Nat} {M : mwM} {L : mwL} (hfu : 6100 ≤ fu) (hT : TxM M n tx) (h9 : M 732 9 = sI w) (h10 : M 732 10 = sI e) (hw : w < e) (he : e ≤ n) : DX19_isNumber fu M L = some (bI (nuB tx w (e - w)), mset M 732 13 (if nuB tx w (e - w) = true then nuV tx w (e - w) else 0), L) := by
  have hn := hT.2.1
  obtain ⟨t1, t2, t3⟩ := hT.2.2 w (by omega)
  obtain ⟨g, hg⟩ : ∃ g, g = sgN tx w := ⟨_, rfl⟩
  have hg1 : g ≤ 1 := by rw [hg]; unfold sgN; split <;> omega
  have hgc : g = 1 ↔ tx w = 45 := by
    rw [hg]; unfold sgN
    by_cases c : tx w = 45
    · rw [if_pos c]; exact ⟨fun _ => c, fun _ => rfl⟩
    · rw [if_neg c]; exact ⟨fun z => by omega, fun z => absurd z c⟩
  -- the end
  have b137 : ∀ (v2 : Bool) (N : Int32) (B : mwM), B = mset M 732 13 N → fX19_isNumber_b137 fu (sI (w + g)) (bI v2) B L = some (bI v2, mset M 732 13 (if tx w = 45 then -N else N), L) := by
    intro v2 N B hB
    subst hB
    unfold fX19_isNumber_b137 fX19_isNumber_b158
    rw [mset_n (show ¬ (732 = 732 ∧ 9 = 13) by omega), mset_s, h9, mlet_e, mlet_e, mset_ii, mset_ii]
    by_cases c : tx w = 45
    · have := hgc.mpr c
      rw [if_neg (show ¬ sI (w + g) ≤ sI w by rw [sI_le (by omega) (by omega)]; omega), if_pos c]
      cases v2 <;> rfl
    · have : g = 0 := by
        have := fun z => c (hgc.mp z)
        omega
      rw [if_pos (show sI (w + g) ≤ sI w by rw [sI_le (by omega) (by omega)]; omega), if_neg c]
      cases v2 <;> rfl
  -- the number, if it is none
  have hF : nuB tx w (e - w) = false → ∀ q, 0 < q → fX19_isNumber_h98 fu q (sI (w + g), 0, sI (w + g), mset M 732 13 0, L) = some (bI (nuB tx w (e - w)), mset M 732 13 (if nuB tx w (e - w) = true then nuV tx w (e - w) else 0), L) := by
    intro hb q hq
    obtain ⟨q, rfl⟩ : ∃ y, q = y + 1 := ⟨q - 1, by omega⟩
    have z := b137 false 0 _ rfl
    show fX19_isNumber_i98 fu (fX19_isNumber_h98 fu q) (sI (w + g)) 0 (sI (w + g)) (mset M 732 13 0) L = _
    unfold fX19_isNumber_i98
    rw [if_pos (show (0 : Int32) = 0 from rfl), hb, if_neg (show ¬ false = true by decide)]
    have z2 : (if tx w = 45 then -(0 : Int32) else 0) = 0 := by split <;> decide
    rw [z2] at z
    by_cases c : (mset M 732 13 0) 732 10 ≤ sI (w + g)
    · rw [if_pos c]; exact z
    · rw [if_neg c]; exact z
  -- the number
  have hV : nuB tx w (e - w) = true → ∀ (r q m : Nat), w + g + m + r = e → r < q → fX19_isNumber_h98 fu q (sI (w + g), 1, sI (w + g + m), mset M 732 13 (sI (hvN tx (w + g) m)), L) = some (bI (nuB tx w (e - w)), mset M 732 13 (if nuB tx w (e - w) = true then nuV tx w (e - w) else 0), L) := by
    intro hb r
    obtain ⟨d1, d2, d3⟩ := of_decide_eq_true hb
    rw [← hg] at d1 d2 d3
    induction r with
    | zero =>
      intro q m hm hq
      obtain ⟨q, rfl⟩ : ∃ y, q = y + 1 := ⟨q - 1, by omega⟩
      have z := b137 true (sI (hvN tx (w + g) m)) _ rfl
      show fX19_isNumber_i98 fu (fX19_isNumber_h98 fu q) (sI (w + g)) 1 (sI (w + g + m)) (mset M 732 13 (sI (hvN tx (w + g) m))) L = _
      unfold fX19_isNumber_i98
      rw [mset_n (show ¬ (732 = 732 ∧ 10 = 13) by omega), h10, if_pos (show sI e ≤ sI (w + g + m) by rw [sI_le (by omega) (by omega)]; omega), hb, if_pos rfl]
      unfold nuV
      rw [← hg, show e - w - g = m from by omega]
      exact z
    | succ r ih =>
      intro q m hm hq
      obtain ⟨q, rfl⟩ : ∃ y, q = y + 1 := ⟨q - 1, by omega⟩
      obtain ⟨u1, u2, u3⟩ := hT.2.2 (w + g + m) (by omega)
      have hd := of_decide_eq_true (d3 m (by omega))
      have nx := ih q (m + 1) (by omega) (by omega)
      show fX19_isNumber_i98 fu (fX19_isNumber_h98 fu q) (sI (w + g)) 1 (sI (w + g + m)) (mset M 732 13 (sI (hvN tx (w + g) m))) L = _
      generalize hH : fX19_isNumber_h98 fu q = H at nx
      unfold fX19_isNumber_i98
      rw [mset_n (show ¬ (732 = 732 ∧ 10 = 13) by omega), h10, if_neg (show ¬ sI e ≤ sI (w + g + m) by rw [sI_le (by omega) (by omega)]; omega), if_neg (show ¬ (1 : Int32) = 0 by decide), mck_s (by omega) (by omega), sI_nn (by omega), mset_s, mset_n (show ¬ (733 = 732 ∧ w + g + m = 13) by omega), u1, mlet_e, mlet_e, mset_ii, sI_1, show (10 : Int32) * sI (hvN tx (w + g) m) = sI (10 * hvN tx (w + g) m) from sI_lml, sI_add, show sI (10 * hvN tx (w + g) m + tx (w + g + m)) - 48 = sI (10 * hvN tx (w + g) m + tx (w + g + m) - 48) from sI_sub (b := 48) (by omega), show 10 * hvN tx (w + g) m + tx (w + g + m) - 48 = hvN tx (w + g) (m + 1) from by
        show _ = 10 * hvN tx (w + g) m + (tx (w + g + m) - 48)
        omega]
      exact nx
  -- are all digits?
  have kF : nuB tx w (e - w) = false → ∀ (r q i : Nat), i + r = e ∨ (e ≤ i ∧ r = 0) → r < q → fX19_isNumber_h55 fu q (sI (w + g), 0, sI i, M, L) = some (bI (nuB tx w (e - w)), mset M 732 13 (if nuB tx w (e - w) = true then nuV tx w (e - w) else 0), L) ∨ 6001 < i := by
    intro hb r
    induction r with
    | zero =>
      intro q i hi hq
      obtain ⟨q, rfl⟩ : ∃ y, q = y + 1 := ⟨q - 1, by omega⟩
      by_cases ci : 6001 < i
      · exact Or.inr ci
      · left
        show fX19_isNumber_i55 fu (fX19_isNumber_h55 fu q) (sI (w + g)) 0 (sI i) M L = _
        unfold fX19_isNumber_i55
        rw [h10, if_pos (show sI e ≤ sI i by rw [sI_le (by omega) (by omega)]; omega), mlet_e]
        exact hF hb fu (by omega)
    | succ r ih =>
      intro q i hi hq
      obtain ⟨q, rfl⟩ : ∃ y, q = y + 1 := ⟨q - 1, by omega⟩
      left
      have nx := (ih q (i + 1) (by omega) (by omega)).resolve_right (by omega)
      show fX19_isNumber_i55 fu (fX19_isNumber_h55 fu q) (sI (w + g)) 0 (sI i) M L = _
      generalize hH : fX19_isNumber_h55 fu q = H at nx
      unfold fX19_isNumber_i55 fX19_isNumber_b83 fX19_isNumber_b84
      rw [h10, if_neg (show ¬ sI e ≤ sI i by rw [sI_le (by omega) (by omega)]; omega), if_pos (show (0 : Int32) = 0 from rfl), mlet_e, sI_1]
      exact nx
  have kT : g < e - w → e - w - g ≤ 9 → ∀ (r q m : Nat), w + g + m + r = e → r < q → (∀ j, j < m → dgt (tx (w + g + j)) = true) → fX19_isNumber_h55 fu q (sI (w + g), 1, sI (w + g + m), M, L) = some (bI (nuB tx w (e - w)), mset M 732 13 (if nuB tx w (e - w) = true then nuV tx w (e - w) else 0), L) := by
    intro g1 g2 r
    induction r with
    | zero =>
      intro q m hm hq hp
      obtain ⟨q, rfl⟩ : ∃ y, q = y + 1 := ⟨q - 1, by omega⟩
      have hb : nuB tx w (e - w) = true := decide_eq_true (by rw [← hg]; exact ⟨g1, g2, fun i hi => hp i (by omega)⟩)
      show fX19_isNumber_i55 fu (fX19_isNumber_h55 fu q) (sI (w + g)) 1 (sI (w + g + m)) M L = _
      unfold fX19_isNumber_i55
      rw [h10, if_pos (show sI e ≤ sI (w + g + m) by rw [sI_le (by omega) (by omega)]; omega), mlet_e]
      exact hV hb (e - (w + g)) fu 0 (by omega) (by omega)
    | succ r ih =>
      intro q m hm hq hp
      obtain ⟨q, rfl⟩ : ∃ y, q = y + 1 := ⟨q - 1, by omega⟩
      obtain ⟨u1, u2, u3⟩ := hT.2.2 (w + g + m) (by omega)
      have nx : dgt (tx (w + g + m)) = true → _ := fun hz => ih q (m + 1) (by omega) (by omega) (fun j hj => by
        by_cases ee : j = m
        · rw [ee]; exact hz
        · exact hp j (by omega))
      have nf : dgt (tx (w + g + m)) = false → _ := fun hz => (kF (decide_eq_false (fun z => by rw [← hg] at z; have := z.2.2 m (by omega); rw [hz] at this; exact absurd this (by decide))) r q (w + g + m + 1) (by omega) (by omega)).resolve_right (by omega)
      show fX19_isNumber_i55 fu (fX19_isNumber_h55 fu q) (sI (w + g)) 1 (sI (w + g + m)) M L = _
      generalize hH : fX19_isNumber_h55 fu q = H at nx nf
      unfold fX19_isNumber_i55 fX19_isNumber_b83 fX19_isNumber_b84
      rw [h10, if_neg (show ¬ sI e ≤ sI (w + g + m) by rw [sI_le (by omega) (by omega)]; omega), if_neg (show ¬ (1 : Int32) = 0 by decide), mck_s (by omega) (by omega), sI_nn (by omega), u1, m_digit u3, mb3_s]
      cases hd : dgt (tx (w + g + m)) with
      | true =>
        rw [bI_t, if_neg (show ¬ (1 : Int32) = 0 by decide), mlet_e, sI_1]
        exact nx hd
      | false =>
        rw [bI_f, if_pos (show (0 : Int32) = 0 from rfl), mlet_e, sI_1]
        exact nf hd
  have b27 : fX19_isNumber_b27 fu (sI (w + g)) M L = some (bI (nuB tx w (e - w)), mset M 732 13 (if nuB tx w (e - w) = true then nuV tx w (e - w) else 0), L) := by
    unfold fX19_isNumber_b27 fX19_isNumber_b51 fX19_isNumber_b52
    rw [h10]
    by_cases c1 : e ≤ w + g
    · rw [if_pos (show sI e ≤ sI (w + g) by rw [sI_le (by omega) (by omega)]; exact c1)]
      exact (kF (decide_eq_false (by rw [← hg]; omega)) 0 fu (w + g) (by omega) (by omega)).resolve_right (by omega)
    · rw [if_neg (show ¬ sI e ≤ sI (w + g) by rw [sI_le (by omega) (by omega)]; exact c1), sI_sub (by omega)]
      by_cases c2 : 9 < e - (w + g)
      · rw [if_pos (show 9 < sI (e - (w + g)) by rw [show (9 : Int32) = sI 9 from rfl, sI_lt (by omega) (by omega)]; exact c2)]
        exact (kF (decide_eq_false (by rw [← hg]; omega)) (e - (w + g)) fu (w + g) (by omega) (by omega)).resolve_right (by omega)
      · rw [if_neg (show ¬ 9 < sI (e - (w + g)) by rw [show (9 : Int32) = sI 9 from rfl, sI_lt (by omega) (by omega)]; exact c2)]
        exact kT (by omega) (by omega) (e - (w + g)) fu 0 (by omega) (by omega) (fun j hj => by omega)
  rw [← b27]
  unfold DX19_isNumber
  rw [h9, mck_s (by omega) (by omega), sI_nn (by omega), t1]
  by_cases c : tx w = 45
  · rw [if_pos (show sI (tx w) = 45 by rw [c]; rfl), hgc.mpr c, sI_1]
  · have : g = 0 := by
      have := fun z => c (hgc.mp z)
      omega
    rw [if_neg (show ¬ sI (tx w) = 45 by rw [sI_45 t3]; exact c), this]
    rfl
/-! READING: a number must come, within bounds -/
abbrev fRn (M M' : mwM) : Prop := ∀ x y, ¬ (x = 732 ∧ (y = 6 ∨ (9 ≤ y ∧ y ≤ 13))) → M' x y = M x y
theorem c_bounded {fu n w s : Nat} {a1 a2 : Int32} {tx : Nat → Nat} {A : mwM} {L : mwL} (hfu : 20 ≤ fu) (hT : TxC A n tx) (h8 : A 1 8 = sI w) (h9 : A 1 9 = sI s) (hs : 1 ≤ s) (hw : w + s ≤ n) (h12 : A 1 12 = 0) : DX8_boundedNumber fu a1 a2 A L = if nuB tx w s = true ∧ ¬ nuV tx w s < a1 ∧ nuV tx w s ≤ a2 then some (nuV tx w s, A, L) else some (0, mset (mset A 1 12 (sI 5)) 1 13 (sI w), L) := by
  unfold DX8_boundedNumber fX8_boundedNumber_b15 fX8_boundedNumber_b33
  rw [c_isNumber hfu hT h8 h9 hs hw, mb3_s]
  cases hb : nuB tx w s with
  | false =>
    rw [bI_f, if_pos (show (0 : Int32) = 0 from rfl), c_isNumber hfu hT h8 h9 hs hw, mb3_s, hb, bI_f, if_pos (show (0 : Int32) = 0 from rfl), c_fail h12, mb2_s, h8, if_neg (fun z => absurd z.1 (by decide))]
    rfl
  | true =>
    rw [bI_t, if_neg (show ¬ (1 : Int32) = 0 by decide), c_numberAtHand hfu hT h8 h9 hs hw hb, mb3_s, c_isNumber hfu hT h8 h9 hs hw, mb3_s, hb, bI_t, if_neg (show ¬ (1 : Int32) = 0 by decide), c_fail h12, mb2_s, h8]
    by_cases c1 : nuV tx w s < a1
    · rw [if_pos c1, if_neg (fun z => z.2.1 c1)]
      rfl
    · rw [if_neg c1]
      by_cases c2 : nuV tx w s ≤ a2
      · rw [if_pos c2, if_pos ⟨rfl, c1, c2⟩]
      · rw [if_neg c2, if_neg (fun z => c2 z.2.2)]
        rfl
theorem nf_number {fu : Nat} {a1 a2 : Int32} {A : mwM} {L : mwL} (h : ¬ A 1 12 = 0) : DX8_number fu a1 a2 A L = some (0, A, L) := by
  unfold DX8_number fX8_number_b17
  rw [nf_fetch h, mb3_s, if_pos rfl]
theorem Ld_n {A M M' : mwM} {n le a : Nat} {tx : Nat → Nat} (h : Ld A M n tx le a) (hM : ∀ x y, (x = 732 ∧ (y = 2 ∨ y = 6 ∨ y = 7)) ∨ x = 733 → M' x y = M x y) : Ld A M' n tx le a := by
  obtain ⟨h1, h2, h3, h4, h5, h6, h7, h8, h9⟩ := h
  exact ⟨h1, TxM_f h2 (fun x y u => hM x y (by omega)), h3, by rw [hM _ _ (by omega)]; exact h4, h5, h6, by rw [hM _ _ (by omega)]; exact h7, h8, h9⟩
theorem st_number {fu n le a : Nat} {a1 a2 : Int32} {A M : mwM} {Lc Lm : mwL} {tx : Nat → Nat} (hfu : 6100 ≤ fu) (h : Ld A M n tx le a) : ∃ A' M', fW A A' ∧ fRn M M' ∧ ((nwK tx le a = true ∧ nuB tx (nwB tx le a) (nwE tx le a - nwB tx le a) = true ∧ ¬ nuV tx (nwB tx le a) (nwE tx le a - nwB tx le a) < a1 ∧ nuV tx (nwB tx le a) (nwE tx le a - nwB tx le a) ≤ a2 ∧ DX8_number fu a1 a2 A Lc = some (nuV tx (nwB tx le a) (nwE tx le a - nwB tx le a), A', Lc) ∧ DX19_number fu a1 a2 M Lm = some (1, M', Lm) ∧ M' 732 13 = nuV tx (nwB tx le a) (nwE tx le a - nwB tx le a) ∧ Ld A' M' n tx le (nwE tx le a) ∧ Hw A' M' (nwB tx le a) (nwE tx le a)) ∨ (DX8_number fu a1 a2 A Lc = some (0, A', Lc) ∧ DX19_number fu a1 a2 M Lm = some (0, M', Lm) ∧ Fx A' M')) := by
  obtain ⟨A1, M1, f1, f2, hr⟩ := st_must (fu := fu) (Lc := Lc) (Lm := Lm) hfu h
  unfold DX8_number DX19_number fX8_number_b17
  rcases hr with ⟨hk, e1, e2, hL, hH⟩ | ⟨e1, e2, hX⟩
  · obtain ⟨w8, w9, m9, m10, hlt⟩ := id hH
    obtain ⟨l1, l2, l3, l4, l5, l6, l7, l8, l9⟩ := id hL
    have hn := l1.2.1
    rw [e1, mb3_s, if_neg (show ¬ (1 : Int32) = 0 by decide), e2, mb3_s, if_neg (show ¬ (1 : Int32) = 0 by decide), c_bounded (by omega) l1 w8 w9 (by omega) (by omega) l9, m_isNumber hfu l2 m9 m10 hlt (by omega), mb3_s]
    generalize hx : nuV tx (nwB tx le a) (nwE tx le a - nwB tx le a) = x
    have fM1 : ∀ v : Int32, fRn M (mset M1 732 13 v) := fun v p y u => by rw [mset_n (by omega), f2 p y (by omega)]
    -- both fail
    have bad : ∀ v : Int32, ∃ A' M', fW A A' ∧ fRn M M' ∧ some ((0 : Int32), mset (mset A1 1 12 (sI 5)) 1 13 (sI (nwB tx le a)), Lc) = some (0, A', Lc) ∧ fX19_number_b32 fu a1 a2 (mset M1 732 13 v) Lm = some (0, M', Lm) ∧ Fx A' M' := by
      intro v
      refine ⟨_, _, ?_, ?_, rfl, ?_, Fx_i (k := 5) (w := nwB tx le a) (M := mset M1 732 13 v) (by omega) (by omega) (by omega)⟩
      · intro p y u
        rw [mset_n (by omega), mset_n (by omega), f1 p y u]
      · intro p y u
        rw [mset_n (by omega), mset_n (by omega), fM1 v p y u]
      · unfold fX19_number_b32 fX19_number_b44 fX19_number_b49
        rw [m_fail, mb3_s, if_pos (show (0 : Int32) = 0 from rfl), mset_n (show ¬ (732 = 732 ∧ 9 = 13) by omega), m9]
        rfl
    cases hb : nuB tx (nwB tx le a) (nwE tx le a - nwB tx le a) with
    | false =>
      obtain ⟨A', M', b1, b2, b3, b4, b5⟩ := bad 0
      rw [if_neg (fun z => absurd z.1 (by decide)), bI_f, if_pos (show (0 : Int32) = 0 from rfl), if_neg (show ¬ false = true by decide), mb3_s]
      exact ⟨A', M', b1, b2, Or.inr ⟨b3, b4, b5⟩⟩
    | true =>
      rw [bI_t, if_neg (show ¬ (1 : Int32) = 0 by decide), if_pos (show true = true from rfl), mset_s]
      by_cases c1 : x < a1
      · obtain ⟨A', M', b1, b2, b3, b4, b5⟩ := bad x
        rw [if_neg (fun z => z.2.1 c1), if_pos c1, mb3_s]
        exact ⟨A', M', b1, b2, Or.inr ⟨b3, b4, b5⟩⟩
      · rw [if_neg c1]
        by_cases c2 : x ≤ a2
        · rw [if_pos ⟨rfl, c1, c2⟩, if_pos c2, mb3_s]
          refine ⟨A1, mset M1 732 13 x, f1, fM1 x, Or.inl ⟨hk, rfl, c1, c2, rfl, ?_, mset_s, Ld_n hL (fun p y u => mset_n (by omega)), w8, w9, by rw [mset_n (by omega)]; exact m9, by rw [mset_n (by omega)]; exact m10, hlt⟩⟩
          unfold fX19_number_b44 fX19_number_b49
          rfl
        · obtain ⟨A', M', b1, b2, b3, b4, b5⟩ := bad x
          rw [if_neg (fun z => c2 z.2.2), if_neg c2, mb3_s]
          exact ⟨A', M', b1, b2, Or.inr ⟨b3, b4, b5⟩⟩
  · rw [e1, mb3_s, if_pos (show (0 : Int32) = 0 from rfl), e2, mb3_s, if_pos (show (0 : Int32) = 0 from rfl)]
    exact ⟨A1, M1, f1, fun p y u => f2 p y (by omega), Or.inr ⟨rfl, rfl, hX⟩⟩
theorem nu_nat {tx : Nat → Nat} {w s lo hi : Nat} (hb : nuB tx w s = true) (h1 : ¬ nuV tx w s < sI lo) (h2 : nuV tx w s ≤ sI hi) (hlo : lo < 2000000000) (hhi : hi < 2000000000) : ∃ v, nuV tx w s = sI v ∧ lo ≤ v ∧ v ≤ hi := by
  obtain ⟨d1, d2, d3⟩ := of_decide_eq_true hb
  have hv := hv_lt (tx := tx) (b := w + sgN tx w) (s - sgN tx w) d3
  have h9 : 10 ^ (s - sgN tx w) ≤ 10 ^ 9 := Nat.pow_le_pow_right (by omega) d2
  unfold nuV at h1 h2 ⊢
  generalize hvN tx (w + sgN tx w) (s - sgN tx w) = v at hv h1 h2 ⊢
  by_cases c : tx w = 45
  · rw [if_pos c] at h1 h2 ⊢
    by_cases v0 : v = 0
    · subst v0
      rw [show -(sI 0) = sI 0 by decide] at h1 h2 ⊢
      rw [sI_lt (by omega) (by omega)] at h1
      exact ⟨0, rfl, by omega, by omega⟩
    · exfalso
      apply h1
      rw [Int32.lt_iff_toInt_lt]
      have t1 : (sI v).toInt = v := sI_toInt (by omega)
      have t2 : (sI lo).toInt = lo := sI_toInt (by omega)
      have t3 : (-(sI v)).toInt = -(v : Int) := by
        rw [Int32.toInt_neg, t1]
        exact Int.bmod_eq_of_le (by omega) (by omega)
      rw [t2, t3]
      omega
  · rw [if_neg c] at h1 h2 ⊢
    rw [sI_lt (by omega) (by omega)] at h1
    rw [sI_le (by omega) (by omega)] at h2
    exact ⟨v, rfl, by omega, by omega⟩
/-! READING: names that are known -/
abbrev Nm : Type := Nat × Nat × Nat × Nat × Nat
def smB (tx : Nat → Nat) (w s p : Nat) : Bool := decide (∀ i, i < s → tx (p + i) = tx (w + i))
def hitB (tx : Nat → Nat) (w s : Nat) (q : Nm) : Bool := decide (q.2.2.1 = s) && smB tx w s q.2.1
def nsL (σ : Nat) (nl : List Nm) : List Nm := nl.filter (fun q => decide (q.1 = σ))
theorem find_sp {σ : Nat} {p : Nm → Bool} : ∀ nl : List Nm, (nsL σ nl).find? p = nl.find? (fun q => decide (q.1 = σ) && p q) := by
  intro nl
  unfold nsL
  induction nl with
  | nil => rfl
  | cons q nl ih =>
    rw [List.filter_cons, List.find?_cons]
    by_cases c : q.1 = σ
    · rw [if_pos (decide_eq_true c), List.find?_cons, decide_eq_true c, Bool.true_and, ih]
    · rw [if_neg (by rw [decide_eq_false c]; decide), decide_eq_false c, Bool.false_and, ih]
theorem find_dr {p : Nm → Bool} {l : List Nm} {j : Nat} (h : j < l.length) : (l.drop j).find? p = if p l[j] = true then some l[j] else (l.drop (j + 1)).find? p := by
  rw [List.drop_eq_getElem_cons h, List.find?_cons]
  cases p l[j] with
  | true => rw [if_pos rfl]
  | false => rw [if_neg (by decide)]
def NmC (A : mwM) (nl : List Nm) : Prop := A 1 3 = sI nl.length ∧ nl.length ≤ 600 ∧ ∀ i (h : i < nl.length), A 726 i = sI nl[i].1 ∧ A 727 i = sI nl[i].2.1 ∧ A 728 i = sI nl[i].2.2.1 ∧ A 729 i = sI nl[i].2.2.2.1 ∧ A 730 i = sI nl[i].2.2.2.2
def NmO (n : Nat) (nl : List Nm) : Prop := ∀ q, q ∈ nl → q.1 < 100 ∧ q.2.1 + q.2.2.1 ≤ n ∧ 1 ≤ q.2.2.1 ∧ q.2.2.2.1 < 10 ∧ q.2.2.2.2 < 1000
def NmM (M : mwM) (l : List Nm) : Prop := M 732 14 = sI l.length ∧ l.length ≤ 70 ∧ ∀ k (h : k < l.length), M 734 k = sI l[k].2.1 ∧ M 735 k = sI l[k].2.2.1 ∧ M 736 k = sI (l[k].2.2.2.1 + 1) ∧ M 737 k = sI l[k].2.2.2.2
def NmS (M : mwM) (x : Nat) (l : List Nm) : Prop := M 754 x = sI l.length ∧ l.length ≤ 200 ∧ ∀ k (h : k < l.length), M 755 (201 * x + k + 1) = sI l[k].2.1 ∧ M 756 (201 * x + k + 1) = sI l[k].2.2.1 ∧ l[k].2.2.2.1 = 4 ∧ l[k].2.2.2.2 = k + 1
def NmD (M : mwM) (x : Nat) (l : List Nm) : Prop := M 757 x = sI l.length ∧ l.length ≤ 32 ∧ ∀ k (h : k < l.length), M 758 (32 * x + k) = sI l[k].2.1 ∧ M 759 (32 * x + k) = sI l[k].2.2.1 ∧ l[k].2.2.2.1 = 5 ∧ l[k].2.2.2.2 = k
theorem c_isSame {fu n w s p : Nat} {tx : Nat → Nat} {A : mwM} {L : mwL} (hfu : 6100 ≤ fu) (hT : TxC A n tx) (h8 : A 1 8 = sI w) (h9 : A 1 9 = sI s) (hw : w + s ≤ n) (hp : p + s ≤ n) : DX8_isSame fu (sI p) A L = some (bI (smB tx w s p), A, L) := by
  have hn := hT.2.1
  have key : ∀ (r q j : Nat), j + r = s → r < q → (∀ i, i < j → tx (p + i) = tx (w + i)) → fX8_isSame_h2 fu (sI p) q (sI j, A, L) = some (bI (smB tx w s p), A, L) := by
    intro r
    induction r with
    | zero =>
      intro q j hj hq hs
      obtain ⟨q, rfl⟩ : ∃ y, q = y + 1 := ⟨q - 1, by omega⟩
      have : smB tx w s p = true := decide_eq_true (fun i hi => hs i (by omega))
      show fX8_isSame_i2 fu (sI p) (fX8_isSame_h2 fu (sI p) q) (sI j) A L = _
      unfold fX8_isSame_i2
      rw [h9, if_pos (show sI s ≤ sI j by rw [sI_le (by omega) (by omega)]; omega), this]
      rfl
    | succ r ih =>
      intro q j hj hq hs
      obtain ⟨q, rfl⟩ : ∃ y, q = y + 1 := ⟨q - 1, by omega⟩
      obtain ⟨u1, u2, u3⟩ := hT.2.2 (w + j) (by omega)
      obtain ⟨v1, v2, v3⟩ := hT.2.2 (p + j) (by omega)
      show fX8_isSame_i2 fu (sI p) (fX8_isSame_h2 fu (sI p) q) (sI j) A L = _
      unfold fX8_isSame_i2
      rw [h9, if_neg (show ¬ sI s ≤ sI j by rw [sI_le (by omega) (by omega)]; omega), sI_add, mck_s (by omega) (by omega), h8, sI_add, mck_s (by omega) (by omega), sI_nn (by omega), sI_nn (by omega), v1, u1]
      by_cases c : tx (p + j) = tx (w + j)
      · rw [if_pos (by rw [c]), mlet_e, sI_1]
        refine ih q (j + 1) (by omega) (by omega) (fun i hi => ?_)
        by_cases ee : i = j
        · rw [ee]; exact c
        · exact hs i (by omega)
      · have : smB tx w s p = false := decide_eq_false (fun z => c (z j (by omega)))
        rw [if_neg (show ¬ sI (tx (p + j)) = sI (tx (w + j)) by rw [sI_eq (by omega) (by omega)]; exact c), this]
        rfl
  exact key s fu 0 (by omega) (by omega) (fun i hi => by omega)
theorem m_same {fu n w e p z : Nat} {tx : Nat → Nat} {M : mwM} {L : mwL} (hfu : 6100 ≤ fu) (hT : TxM M n tx) (h9 : M 732 9 = sI w) (h10 : M 732 10 = sI e) (hw : w < e) (he : e ≤ n) (hp : p + z ≤ n) (hz : 1 ≤ z) : DX19_same fu (sI p) (sI z) M L = some (bI (decide (z = e - w) && smB tx w (e - w) p), M, L) := by
  have hn := hT.2.1
  unfold DX19_same fX19_same_b18
  rw [h9, h10, sI_sub (by omega)]
  by_cases c : z = e - w
  · subst c
    rw [if_pos rfl, decide_eq_true rfl, Bool.true_and]
    have key : ∀ (r q j : Nat), j + r = e - w → r < q → (∀ i, i < j → tx (p + i) = tx (w + i)) → fX19_same_h22 fu (sI p) (sI (e - w)) q (1, sI j, M, L) = some (bI (smB tx w (e - w) p), M, L) := by
      intro r
      induction r with
      | zero =>
        intro q j hj hq hs
        obtain ⟨q, rfl⟩ : ∃ y, q = y + 1 := ⟨q - 1, by omega⟩
        have : smB tx w (e - w) p = true := decide_eq_true (fun i hi => hs i (by omega))
        show fX19_same_i22 fu (sI p) (sI (e - w)) (fX19_same_h22 fu (sI p) (sI (e - w)) q) 1 (sI j) M L = _
        unfold fX19_same_i22 fX19_same_b68
        rw [if_pos (show sI (e - w) ≤ sI j by rw [sI_le (by omega) (by omega)]; omega), this]
        rfl
      | succ r ih =>
        intro q j hj hq hs
        obtain ⟨q, rfl⟩ : ∃ y, q = y + 1 := ⟨q - 1, by omega⟩
        obtain ⟨q, rfl⟩ : ∃ y, q = y + 1 := ⟨q - 1, by omega⟩
        obtain ⟨u1, u2, u3⟩ := hT.2.2 (w + j) (by omega)
        obtain ⟨v1, v2, v3⟩ := hT.2.2 (p + j) (by omega)
        have nx := ih (q + 1) (j + 1) (by omega) (by omega)
        have nf : fX19_same_h22 fu (sI p) (sI (e - w)) (q + 1) (0, sI (j + 1), M, L) = some (0, M, L) := by
          show fX19_same_i22 fu (sI p) (sI (e - w)) (fX19_same_h22 fu (sI p) (sI (e - w)) q) 0 (sI (j + 1)) M L = _
          unfold fX19_same_i22 fX19_same_b68
          rw [if_pos (show (0 : Int32) = 0 from rfl)]
          split <;> rfl
        show fX19_same_i22 fu (sI p) (sI (e - w)) (fX19_same_h22 fu (sI p) (sI (e - w)) (q + 1)) 1 (sI j) M L = _
        generalize hH : fX19_same_h22 fu (sI p) (sI (e - w)) (q + 1) = H at nx nf
        unfold fX19_same_i22 fX19_same_b61
        rw [if_neg (show ¬ sI (e - w) ≤ sI j by rw [sI_le (by omega) (by omega)]; omega), if_neg (show ¬ (1 : Int32) = 0 by decide), h9, sI_add, mck_s (by omega) (by omega), sI_add, mck_s (by omega) (by omega), sI_nn (by omega), sI_nn (by omega), v1, u1, mlet_e, mlet_e, sI_1]
        by_cases c : tx (p + j) = tx (w + j)
        · rw [if_pos (by rw [c])]
          refine nx (fun i hi => ?_)
          by_cases ee : i = j
          · rw [ee]; exact c
          · exact hs i (by omega)
        · have : smB tx w (e - w) p = false := decide_eq_false (fun z => c (z j (by omega)))
          rw [if_neg (show ¬ sI (tx (w + j)) = sI (tx (p + j)) by rw [sI_eq (by omega) (by omega)]; exact fun z => c z.symm), this]
          exact nf
    exact key (e - w) fu 0 (by omega) (by omega) (fun i hi => by omega)
  · rw [if_neg (show ¬ sI (e - w) = sI z by rw [sI_eq (by omega) (by omega)]; exact fun y => c y.symm), decide_eq_false c, Bool.false_and]
    obtain ⟨q, hq⟩ : ∃ q, fu = q + 1 := ⟨fu - 1, by omega⟩
    rw [show fX19_same_h22 fu (sI p) (sI z) fu (0, 0, M, L) = fX19_same_h22 fu (sI p) (sI z) (q + 1) (0, 0, M, L) by rw [← hq]]
    show fX19_same_i22 fu (sI p) (sI z) (fX19_same_h22 fu (sI p) (sI z) q) 0 0 M L = _
    unfold fX19_same_i22 fX19_same_b68
    rw [if_pos (show (0 : Int32) = 0 from rfl)]
    split <;> rfl
/-- what a name means -/
theorem c_findName {fu n w s σ : Nat} {tx : Nat → Nat} {nl : List Nm} {A : mwM} {L : mwL} (hfu : 6100 ≤ fu) (hT : TxC A n tx) (h8 : A 1 8 = sI w) (h9 : A 1 9 = sI s) (hw : w + s ≤ n) (hN : NmC A nl) (hO : NmO n nl) (hσ : σ < 100) : ∃ r, DX8_findName fu (sI σ) A L = some (r, A, L) ∧ ((r = -1 ∧ (nsL σ nl).find? (hitB tx w s) = none) ∨ ∃ i, ∃ h : i < nl.length, r = sI i ∧ (nsL σ nl).find? (hitB tx w s) = some nl[i]) := by
  have hn := hT.2.1
  obtain ⟨n1, n2, n3⟩ := hN
  rw [find_sp]
  have key : ∀ (r q j : Nat), j + r = nl.length → r < q → ∃ v, fX8_findName_h2 fu (sI σ) q (sI j, A, L) = some (v, A, L) ∧ ((v = -1 ∧ (nl.drop j).find? (fun q => decide (q.1 = σ) && hitB tx w s q) = none) ∨ ∃ i, ∃ h : i < nl.length, v = sI i ∧ (nl.drop j).find? (fun q => decide (q.1 = σ) && hitB tx w s q) = some nl[i]) := by
    intro r
    induction r with
    | zero =>
      intro q j hj hq
      obtain ⟨q, rfl⟩ : ∃ y, q = y + 1 := ⟨q - 1, by omega⟩
      refine ⟨-1, ?_, Or.inl ⟨rfl, ?_⟩⟩
      · show fX8_findName_i2 fu (sI σ) (fX8_findName_h2 fu (sI σ) q) (sI j) A L = _
        unfold fX8_findName_i2
        rw [n1, if_pos (show sI nl.length ≤ sI j by rw [sI_le (by omega) (by omega)]; omega)]
      · rw [List.drop_eq_nil_of_le (by omega)]
        rfl
    | succ r ih =>
      intro q j hj hq
      obtain ⟨q, rfl⟩ : ∃ y, q = y + 1 := ⟨q - 1, by omega⟩
      have hjl : j < nl.length := by omega
      obtain ⟨a1, a2, a3, _⟩ := n3 j hjl
      obtain ⟨o1, o2, o3, _⟩ := hO nl[j] (List.getElem_mem _)
      obtain ⟨v, x1, x2⟩ := ih q (j + 1) (by omega) (by omega)
      rw [find_dr hjl]
      show ∃ v, fX8_findName_i2 fu (sI σ) (fX8_findName_h2 fu (sI σ) q) (sI j) A L = _ ∧ _
      generalize hH : fX8_findName_h2 fu (sI σ) q = H at x1
      unfold fX8_findName_i2 fX8_findName_b54
      rw [n1, if_neg (show ¬ sI nl.length ≤ sI j by rw [sI_le (by omega) (by omega)]; omega), mck_s (by omega) (by omega), mck_s (by omega) (by omega), mck_s (by omega) (by omega), sI_nn (by omega), a1, a2, a3, h9, mlet_e, sI_1]
      by_cases c1 : nl[j].1 = σ
      · rw [if_pos (show sI nl[j].1 = sI σ by rw [c1])]
        by_cases c2 : nl[j].2.2.1 = s
        · rw [if_pos (show sI nl[j].2.2.1 = sI s by rw [c2]), c_isSame hfu hT h8 h9 hw (by omega), mb3_s]
          cases hb : smB tx w s nl[j].2.1 with
          | true =>
            rw [bI_t, if_neg (show ¬ (1 : Int32) = 0 by decide), if_pos (by unfold hitB; rw [decide_eq_true c1, decide_eq_true c2, hb]; rfl)]
            exact ⟨sI j, rfl, Or.inr ⟨j, hjl, rfl, rfl⟩⟩
          | false =>
            rw [bI_f, if_pos (show (0 : Int32) = 0 from rfl), mlet_e, if_neg (by unfold hitB; rw [hb, Bool.and_false, Bool.and_false]; decide)]
            exact ⟨v, x1, x2⟩
        · rw [if_neg (show ¬ sI nl[j].2.2.1 = sI s by rw [sI_eq (by omega) (by omega)]; exact c2), if_neg (by unfold hitB; rw [decide_eq_false c2, Bool.false_and, Bool.and_false]; decide)]
          exact ⟨v, x1, x2⟩
      · rw [if_neg (show ¬ sI nl[j].1 = sI σ by rw [sI_eq (by omega) (by omega)]; exact c1), if_neg (by rw [decide_eq_false c1, Bool.false_and]; decide)]
        exact ⟨v, x1, x2⟩
  exact key nl.length fu 0 (by omega) (by omega)
/-! READING: names that the reference knows -/
theorem NmO_s {n σ : Nat} {nl : List Nm} (h : NmO n nl) : NmO n (nsL σ nl) := fun q hq => h q (List.mem_filter.mp hq).1
theorem ns_m {σ : Nat} {nl : List Nm} {q : Nm} (h : q ∈ nsL σ nl) : q ∈ nl ∧ q.1 = σ := by
  obtain ⟨h1, h2⟩ := List.mem_filter.mp h
  exact ⟨h1, of_decide_eq_true h2⟩
theorem m_findName {fu n w e : Nat} {tx : Nat → Nat} {l : List Nm} {M : mwM} {L : mwL} (hfu : 6100 ≤ fu) (hT : TxM M n tx) (h9 : M 732 9 = sI w) (h10 : M 732 10 = sI e) (hw : w < e) (he : e ≤ n) (hN : NmM M l) (hO : NmO n l) : ∃ r, DX19_findName fu M L = some (r, M, L) ∧ ((r = -1 ∧ l.find? (hitB tx w (e - w)) = none) ∨ ∃ i, ∃ h : i < l.length, r = sI i ∧ l.find? (hitB tx w (e - w)) = some l[i]) := by
  have hn := hT.2.1
  obtain ⟨n1, n2, n3⟩ := hN
  have key : ∀ (r q j : Nat), j + r = l.length → r < q → ∃ v, fX19_findName_h2 fu q (sI j, M, L) = some (v, M, L) ∧ ((v = -1 ∧ (l.drop j).find? (hitB tx w (e - w)) = none) ∨ ∃ i, ∃ h : i < l.length, v = sI i ∧ (l.drop j).find? (hitB tx w (e - w)) = some l[i]) := by
    intro r
    induction r with
    | zero =>
      intro q j hj hq
      obtain ⟨q, rfl⟩ : ∃ y, q = y + 1 := ⟨q - 1, by omega⟩
      refine ⟨-1, ?_, Or.inl ⟨rfl, ?_⟩⟩
      · show fX19_findName_i2 fu (fX19_findName_h2 fu q) (sI j) M L = _
        unfold fX19_findName_i2
        rw [n1, if_pos (show sI l.length ≤ sI j by rw [sI_le (by omega) (by omega)]; omega)]
      · rw [List.drop_eq_nil_of_le (by omega)]
        rfl
    | succ r ih =>
      intro q j hj hq
      obtain ⟨q, rfl⟩ : ∃ y, q = y + 1 := ⟨q - 1, by omega⟩
      have hjl : j < l.length := by omega
      obtain ⟨a1, a2, _⟩ := n3 j hjl
      obtain ⟨o1, o2, o3, _⟩ := hO l[j] (List.getElem_mem _)
      obtain ⟨v, x1, x2⟩ := ih q (j + 1) (by omega) (by omega)
      rw [find_dr hjl]
      show ∃ v, fX19_findName_i2 fu (fX19_findName_h2 fu q) (sI j) M L = _ ∧ _
      generalize hH : fX19_findName_h2 fu q = H at x1
      unfold fX19_findName_i2
      rw [n1, if_neg (show ¬ sI l.length ≤ sI j by rw [sI_le (by omega) (by omega)]; omega), mck_s (by omega) (by omega), mck_s (by omega) (by omega), sI_nn (by omega), a1, a2, m_same hfu hT h9 h10 hw he o2 o3, mb3_s, mlet_e, sI_1]
      cases hb : hitB tx w (e - w) l[j] with
      | true =>
        rw [show (decide (l[j].2.2.1 = e - w) && smB tx w (e - w) l[j].2.1) = true from hb, bI_t, if_neg (show ¬ (1 : Int32) = 0 by decide), if_pos rfl]
        exact ⟨sI j, rfl, Or.inr ⟨j, hjl, rfl, rfl⟩⟩
      | false =>
        rw [show (decide (l[j].2.2.1 = e - w) && smB tx w (e - w) l[j].2.1) = false from hb, bI_f, if_pos (show (0 : Int32) = 0 from rfl), if_neg (show ¬ false = true by decide)]
        exact ⟨v, x1, x2⟩
  exact key l.length fu 0 (by omega) (by omega)
theorem m_findState {fu n w e x : Nat} {tx : Nat → Nat} {l : List Nm} {M : mwM} {L : mwL} (hfu : 6100 ≤ fu) (hT : TxM M n tx) (h9 : M 732 9 = sI w) (h10 : M 732 10 = sI e) (hw : w < e) (he : e ≤ n) (hx : x < 12) (hN : NmS M x l) (hO : NmO n l) : ∃ r, DX19_findState fu (sI x) M L = some (r, M, L) ∧ ((r = -1 ∧ l.find? (hitB tx w (e - w)) = none) ∨ ∃ i, ∃ h : i < l.length, r = sI (i + 1) ∧ l.find? (hitB tx w (e - w)) = some l[i]) := by
  have hn := hT.2.1
  obtain ⟨n1, n2, n3⟩ := hN
  have key : ∀ (r q j : Nat), j + r = l.length → r < q → ∃ v, fX19_findState_h2 fu (sI x) q (sI (j + 1), M, L) = some (v, M, L) ∧ ((v = -1 ∧ (l.drop j).find? (hitB tx w (e - w)) = none) ∨ ∃ i, ∃ h : i < l.length, v = sI (i + 1) ∧ (l.drop j).find? (hitB tx w (e - w)) = some l[i]) := by
    intro r
    induction r with
    | zero =>
      intro q j hj hq
      obtain ⟨q, rfl⟩ : ∃ y, q = y + 1 := ⟨q - 1, by omega⟩
      refine ⟨-1, ?_, Or.inl ⟨rfl, ?_⟩⟩
      · show fX19_findState_i2 fu (sI x) (fX19_findState_h2 fu (sI x) q) (sI (j + 1)) M L = _
        unfold fX19_findState_i2
        rw [mck_s (by omega) (by omega), sI_nn (by omega), n1, if_pos (show sI l.length < sI (j + 1) by rw [sI_lt (by omega) (by omega)]; omega)]
      · rw [List.drop_eq_nil_of_le (by omega)]
        rfl
    | succ r ih =>
      intro q j hj hq
      obtain ⟨q, rfl⟩ : ∃ y, q = y + 1 := ⟨q - 1, by omega⟩
      have hjl : j < l.length := by omega
      obtain ⟨a1, a2, _⟩ := n3 j hjl
      obtain ⟨o1, o2, o3, _⟩ := hO l[j] (List.getElem_mem _)
      obtain ⟨v, x1, x2⟩ := ih q (j + 1) (by omega) (by omega)
      rw [find_dr hjl]
      show ∃ v, fX19_findState_i2 fu (sI x) (fX19_findState_h2 fu (sI x) q) (sI (j + 1)) M L = _ ∧ _
      generalize hH : fX19_findState_h2 fu (sI x) q = H at x1
      unfold fX19_findState_i2
      rw [mck_s (by omega) (by omega), sI_nn (show x < 2000000000 by omega), n1, if_neg (show ¬ sI l.length < sI (j + 1) by rw [sI_lt (by omega) (by omega)]; omega), show (201 : Int32) * sI x = sI (201 * x) from sI_lml, sI_add, mck_s (by omega) (by omega), mck_s (by omega) (by omega), sI_nn (by omega), show 201 * x + (j + 1) = 201 * x + j + 1 from rfl, a1, a2, m_same hfu hT h9 h10 hw he o2 o3, mb3_s, mlet_e, sI_1]
      cases hb : hitB tx w (e - w) l[j] with
      | true =>
        rw [show (decide (l[j].2.2.1 = e - w) && smB tx w (e - w) l[j].2.1) = true from hb, bI_t, if_neg (show ¬ (1 : Int32) = 0 by decide), if_pos rfl]
        exact ⟨sI (j + 1), rfl, Or.inr ⟨j, hjl, rfl, rfl⟩⟩
      | false =>
        rw [show (decide (l[j].2.2.1 = e - w) && smB tx w (e - w) l[j].2.1) = false from hb, bI_f, if_pos (show (0 : Int32) = 0 from rfl), if_neg (show ¬ false = true by decide)]
        exact ⟨v, x1, x2⟩
  exact key l.length fu 0 (by omega) (by omega)
theorem m_findDatum {fu n w e x : Nat} {tx : Nat → Nat} {l : List Nm} {M : mwM} {L : mwL} (hfu : 6100 ≤ fu) (hT : TxM M n tx) (h9 : M 732 9 = sI w) (h10 : M 732 10 = sI e) (hw : w < e) (he : e ≤ n) (hx : x < 12) (hN : NmD M x l) (hO : NmO n l) : ∃ r, DX19_findDatum fu (sI x) M L = some (r, M, L) ∧ ((r = -1 ∧ l.find? (hitB tx w (e - w)) = none) ∨ ∃ i, ∃ h : i < l.length, r = sI i ∧ l.find? (hitB tx w (e - w)) = some l[i]) := by
  have hn := hT.2.1
  obtain ⟨n1, n2, n3⟩ := hN
  have key : ∀ (r q j : Nat), j + r = l.length → r < q → ∃ v, fX19_findDatum_h2 fu (sI x) q (sI j, M, L) = some (v, M, L) ∧ ((v = -1 ∧ (l.drop j).find? (hitB tx w (e - w)) = none) ∨ ∃ i, ∃ h : i < l.length, v = sI i ∧ (l.drop j).find? (hitB tx w (e - w)) = some l[i]) := by
    intro r
    induction r with
    | zero =>
      intro q j hj hq
      obtain ⟨q, rfl⟩ : ∃ y, q = y + 1 := ⟨q - 1, by omega⟩
      refine ⟨-1, ?_, Or.inl ⟨rfl, ?_⟩⟩
      · show fX19_findDatum_i2 fu (sI x) (fX19_findDatum_h2 fu (sI x) q) (sI j) M L = _
        unfold fX19_findDatum_i2
        rw [mck_s (by omega) (by omega), sI_nn (by omega), n1, if_pos (show sI l.length ≤ sI j by rw [sI_le (by omega) (by omega)]; omega)]
      · rw [List.drop_eq_nil_of_le (by omega)]
        rfl
    | succ r ih =>
      intro q j hj hq
      obtain ⟨q, rfl⟩ : ∃ y, q = y + 1 := ⟨q - 1, by omega⟩
      have hjl : j < l.length := by omega
      obtain ⟨a1, a2, _⟩ := n3 j hjl
      obtain ⟨o1, o2, o3, _⟩ := hO l[j] (List.getElem_mem _)
      obtain ⟨v, x1, x2⟩ := ih q (j + 1) (by omega) (by omega)
      rw [find_dr hjl]
      show ∃ v, fX19_findDatum_i2 fu (sI x) (fX19_findDatum_h2 fu (sI x) q) (sI j) M L = _ ∧ _
      generalize hH : fX19_findDatum_h2 fu (sI x) q = H at x1
      unfold fX19_findDatum_i2
      rw [mck_s (by omega) (by omega), sI_nn (show x < 2000000000 by omega), n1, if_neg (show ¬ sI l.length ≤ sI j by rw [sI_le (by omega) (by omega)]; omega), show (32 : Int32) * sI x = sI (32 * x) from sI_lml, sI_add, mck_s (by omega) (by omega), mck_s (by omega) (by omega), sI_nn (by omega), a1, a2, m_same hfu hT h9 h10 hw he o2 o3, mb3_s, mlet_e, sI_1]
      cases hb : hitB tx w (e - w) l[j] with
      | true =>
        rw [show (decide (l[j].2.2.1 = e - w) && smB tx w (e - w) l[j].2.1) = true from hb, bI_t, if_neg (show ¬ (1 : Int32) = 0 by decide), if_pos rfl]
        exact ⟨sI j, rfl, Or.inr ⟨j, hjl, rfl, rfl⟩⟩
      | false =>
        rw [show (decide (l[j].2.2.1 = e - w) && smB tx w (e - w) l[j].2.1) = false from hb, bI_f, if_pos (show (0 : Int32) = 0 from rfl), if_neg (show ¬ false = true by decide)]
        exact ⟨v, x1, x2⟩
  exact key l.length fu 0 (by omega) (by omega)
/-! READING: a name must come that is known -/
def NaR (A M : mwM) (n X : Nat) (nl : List Nm) : Prop := NmC A nl ∧ NmO n nl ∧ NmM M (nsL 0 nl) ∧ X ≤ 12 ∧ ∀ x, x < X → NmS M x (nsL (1 + 2 * x) nl) ∧ NmD M x (nsL (2 + 2 * x) nl)
theorem NaR_f {A A' M M' : mwM} {n X : Nat} {nl : List Nm} (h : NaR A M n X nl) (hA : ∀ a y, (a = 1 ∧ y = 3) ∨ (726 ≤ a ∧ a ≤ 730) → A' a y = A a y) (hM : ∀ a y, (a = 732 ∧ y = 14) ∨ (734 ≤ a ∧ a ≤ 737) ∨ (754 ≤ a ∧ a ≤ 759) → M' a y = M a y) : NaR A' M' n X nl := by
  obtain ⟨⟨c1, c2, c3⟩, h2, ⟨m1, m2, m3⟩, hX, h5⟩ := h
  refine ⟨⟨by rw [hA _ _ (by omega)]; exact c1, c2, fun i hi => ?_⟩, h2, ⟨by rw [hM _ _ (by omega)]; exact m1, m2, fun k hk => ?_⟩, hX, fun x hx => ⟨?_, ?_⟩⟩
  · rw [hA _ _ (by omega), hA _ _ (by omega), hA _ _ (by omega), hA _ _ (by omega), hA _ _ (by omega)]
    exact c3 i hi
  · rw [hM _ _ (by omega), hM _ _ (by omega), hM _ _ (by omega), hM _ _ (by omega)]
    exact m3 k hk
  · obtain ⟨⟨s1, s2, s3⟩, _⟩ := h5 x hx
    refine ⟨by rw [hM _ _ (by omega)]; exact s1, s2, fun k hk => ?_⟩
    rw [hM _ _ (by omega), hM _ _ (by omega)]
    exact s3 k hk
  · obtain ⟨_, ⟨s1, s2, s3⟩⟩ := h5 x hx
    refine ⟨by rw [hM _ _ (by omega)]; exact s1, s2, fun k hk => ?_⟩
    rw [hM _ _ (by omega), hM _ _ (by omega)]
    exact s3 k hk
theorem nf_told {fu : Nat} {a1 a2 : Int32} {A : mwM} {L : mwL} (h : ¬ A 1 12 = 0) : DX8_toldName fu a1 a2 A L = some (0, A, L) := by
  unfold DX8_toldName
  rw [nf_fetch h, mb3_s, if_pos rfl]
/-- the class: what the word at hand means -/
theorem c_told {fu n w e σ k : Nat} {tx : Nat → Nat} {nl : List Nm} {A : mwM} {L : mwL} (hfu : 6100 ≤ fu) (hT : TxC A n tx) (h8 : A 1 8 = sI w) (h9 : A 1 9 = sI (e - w)) (hw : w < e) (he : e ≤ n) (h12 : A 1 12 = 0) (hN : NmC A nl) (hO : NmO n nl) (hσ : σ < 100) (hk : k < 10) : mb3 (DX8_findName fu (sI σ) A L) (fun r9 M7 L8 => (if r9 < 0 then fX8_toldName_b31 fu (sI σ) (sI k) M7 L8 else mck r9 600 ((if (M7 729 r9.toNatClampNeg) = sI k then mck r9 600 (some (M7 730 r9.toNatClampNeg, M7, L8)) else fX8_toldName_b31 fu (sI σ) (sI k) M7 L8)))) = match (nsL σ nl).find? (hitB tx w (e - w)) with
    | none => some (0, mset (mset A 1 12 (sI 4)) 1 13 (sI w), L)
    | some q => if q.2.2.2.1 = k then some (sI q.2.2.2.2, A, L) else some (0, mset (mset A 1 12 (sI 4)) 1 13 (sI w), L) := by
  have hn := hT.2.1
  have bad : fX8_toldName_b31 fu (sI σ) (sI k) A L = some (0, mset (mset A 1 12 (sI 4)) 1 13 (sI w), L) := by
    unfold fX8_toldName_b31
    rw [c_fail h12, mb2_s, h8]
    rfl
  obtain ⟨r, x1, x2⟩ := c_findName (fu := fu) (L := L) hfu hT h8 h9 (by omega) hN hO hσ
  rw [x1, mb3_s]
  rcases x2 with ⟨y1, y2⟩ | ⟨i, hi, y1, y2⟩
  · rw [y2, y1, if_pos (by decide), bad]
  · obtain ⟨a1, a2, a3, a4, a5⟩ := hN.2.2 i hi
    have hl := hN.2.1
    obtain ⟨o1, o2, o3, o4, o5⟩ := hO nl[i] (List.getElem_mem _)
    rw [y2, y1, if_neg (show ¬ sI i < 0 by rw [show (0 : Int32) = sI 0 from rfl, sI_lt (by omega) (by omega)]; omega), mck_s (by omega) (by omega), mck_s (by omega) (by omega), sI_nn (by omega), a4, a5, bad]
    dsimp only
    by_cases c : nl[i].2.2.2.1 = k
    · rw [if_pos c, if_pos (show sI nl[i].2.2.2.1 = sI k by rw [c])]
    · rw [if_neg c, if_neg (show ¬ sI nl[i].2.2.2.1 = sI k by rw [sI_eq (by omega) (by omega)]; exact c)]
theorem st_told {fu n le a k X : Nat} {A M : mwM} {Lc Lm : mwL} {tx : Nat → Nat} {nl : List Nm} (hfu : 6100 ≤ fu) (h : Ld A M n tx le a) (hN : NaR A M n X nl) (hk : k < 10) : ∃ A' M', fW A A' ∧ fR M M' ∧ ((∃ q, q ∈ nl ∧ q.1 = 0 ∧ q.2.2.2.1 = k ∧ nwK tx le a = true ∧ DX8_toldName fu 0 (sI k) A Lc = some (sI q.2.2.2.2, A', Lc) ∧ DX19_named fu (sI (k + 1)) M Lm = some (sI q.2.2.2.2, M', Lm) ∧ Ld A' M' n tx le (nwE tx le a) ∧ Hw A' M' (nwB tx le a) (nwE tx le a)) ∨ (DX8_toldName fu 0 (sI k) A Lc = some (0, A', Lc) ∧ DX19_named fu (sI (k + 1)) M Lm = some (-1, M', Lm) ∧ Fx A' M')) := by
  obtain ⟨A1, M1, f1, f2, hr⟩ := st_must (fu := fu) (Lc := Lc) (Lm := Lm) hfu h
  have hN1 : NaR A1 M1 n X nl := NaR_f hN (fun x y u => f1 x y (by omega)) (fun x y u => f2 x y (by omega))
  unfold DX8_toldName DX19_named
  rcases hr with ⟨hk', e1, e2, hL, hH⟩ | ⟨e1, e2, hX⟩
  · obtain ⟨w8, w9, m9, m10, hlt⟩ := id hH
    obtain ⟨l1, l2, l3, l4, l5, l6, l7, l8, l9⟩ := id hL
    obtain ⟨nC, nO, nM, nX, nS⟩ := hN1
    have hn := l1.2.1
    have ec := c_told (σ := 0) (k := k) (L := Lc) hfu l1 w8 w9 hlt (by omega) l9 nC nO (by omega) hk
    rw [e1, mb3_s, if_neg (show ¬ (1 : Int32) = 0 by decide), e2, mb3_s, if_neg (show ¬ (1 : Int32) = 0 by decide)]
    rw [show (0 : Int32) = sI 0 from rfl] at *
    rw [ec]
    obtain ⟨r, x1, x2⟩ := m_findName (fu := fu) (L := Lm) hfu l2 m9 m10 hlt (by omega) nM (NmO_s nO)
    have bad : ∃ A' M', fW A A' ∧ fR M M' ∧ some (sI 0, mset (mset A1 1 12 (sI 4)) 1 13 (sI (nwB tx le a)), Lc) = some (sI 0, A', Lc) ∧ fX19_named_b35 fu (sI (k + 1)) M1 Lm = some (-1, M', Lm) ∧ Fx A' M' := by
      refine ⟨_, _, ?_, ?_, rfl, ?_, Fx_i (k := 4) (w := nwB tx le a) (M := M1) (by omega) (by omega) (by omega)⟩
      · intro p y u
        rw [mset_n (by omega), mset_n (by omega), f1 p y u]
      · intro p y u
        rw [mset_n (by omega), mset_n (by omega), f2 p y u]
      · unfold fX19_named_b35
        rw [m_fail, mb3_s, m9]
        rfl
    rw [x1, mb3_s]
    rcases x2 with ⟨y1, y2⟩ | ⟨i, hi, y1, y2⟩
    · obtain ⟨A', M', b1, b2, b3, b4, b5⟩ := bad
      rw [y2, y1, if_pos (by decide)]
      exact ⟨A', M', b1, b2, Or.inr ⟨b3, b4, b5⟩⟩
    · obtain ⟨a1, a2, a3, a4⟩ := nM.2.2 i hi
      have hl := nM.2.1
      obtain ⟨q1, q2⟩ := ns_m (List.getElem_mem hi)
      obtain ⟨o1, o2, o3, o4, o5⟩ := nO _ q1
      rw [y2, y1, if_neg (show ¬ sI i < sI 0 by rw [sI_lt (by omega) (by omega)]; omega), mck_s (by omega) (by omega), mck_s (by omega) (by omega), sI_nn (by omega), a3, a4]
      dsimp only
      by_cases c : (nsL 0 nl)[i].2.2.2.1 = k
      · rw [if_pos c, if_pos (show sI ((nsL 0 nl)[i].2.2.2.1 + 1) = sI (k + 1) by rw [c])]
        exact ⟨A1, M1, f1, f2, Or.inl ⟨_, q1, q2, c, hk', rfl, rfl, hL, hH⟩⟩
      · obtain ⟨A', M', b1, b2, b3, b4, b5⟩ := bad
        rw [if_neg c, if_neg (show ¬ sI ((nsL 0 nl)[i].2.2.2.1 + 1) = sI (k + 1) by rw [sI_eq (by omega) (by omega)]; omega)]
        exact ⟨A', M', b1, b2, Or.inr ⟨b3, b4, b5⟩⟩
  · rw [e1, mb3_s, if_pos (show (0 : Int32) = 0 from rfl), e2, mb3_s, if_pos (show (0 : Int32) = 0 from rfl)]
    exact ⟨A1, M1, f1, f2, Or.inr ⟨rfl, rfl, hX⟩⟩
/-! READING: a state or a datum must come -/
theorem st_stt {fu n le a x X : Nat} {A M : mwM} {Lc Lm : mwL} {tx : Nat → Nat} {nl : List Nm} (hfu : 6100 ≤ fu) (h : Ld A M n tx le a) (hN : NaR A M n X nl) (hx : x < X) : ∃ A' M', fW A A' ∧ fR M M' ∧ ((∃ i, i < (nsL (1 + 2 * x) nl).length ∧ nwK tx le a = true ∧ DX8_toldName fu (sI (1 + 2 * x)) 4 A Lc = some (sI (i + 1), A', Lc) ∧ DX19_state fu (sI x) M Lm = some (sI (i + 1), M', Lm) ∧ Ld A' M' n tx le (nwE tx le a) ∧ Hw A' M' (nwB tx le a) (nwE tx le a)) ∨ (DX8_toldName fu (sI (1 + 2 * x)) 4 A Lc = some (0, A', Lc) ∧ DX19_state fu (sI x) M Lm = some (-1, M', Lm) ∧ Fx A' M')) := by
  obtain ⟨A1, M1, f1, f2, hr⟩ := st_must (fu := fu) (Lc := Lc) (Lm := Lm) hfu h
  have hN1 : NaR A1 M1 n X nl := NaR_f hN (fun x y u => f1 x y (by omega)) (fun x y u => f2 x y (by omega))
  unfold DX8_toldName DX19_state
  rcases hr with ⟨hk', e1, e2, hL, hH⟩ | ⟨e1, e2, hX⟩
  · obtain ⟨w8, w9, m9, m10, hlt⟩ := id hH
    obtain ⟨l1, l2, l3, l4, l5, l6, l7, l8, l9⟩ := id hL
    obtain ⟨nC, nO, nM, nX, nS⟩ := hN1
    have hn := l1.2.1
    have ec := c_told (σ := 1 + 2 * x) (k := 4) (L := Lc) hfu l1 w8 w9 hlt (by omega) l9 nC nO (by omega) (by omega)
    rw [e1, mb3_s, if_neg (show ¬ (1 : Int32) = 0 by decide), e2, mb3_s, if_neg (show ¬ (1 : Int32) = 0 by decide)]
    rw [show (4 : Int32) = sI 4 from rfl, ec]
    obtain ⟨r, x1, x2⟩ := m_findState (fu := fu) (L := Lm) hfu l2 m9 m10 hlt (by omega) (show x < 12 by omega) (nS x hx).1 (NmO_s nO)
    rw [x1, mb3_s]
    rcases x2 with ⟨y1, y2⟩ | ⟨i, hi, y1, y2⟩
    · rw [y2, y1, if_neg (by decide), show (sI 4) = 4 from rfl, m_fail, mb3_s, if_pos (show (0 : Int32) = 0 from rfl), m9]
      refine ⟨_, _, ?_, ?_, Or.inr ⟨rfl, rfl, Fx_i (k := 4) (w := nwB tx le a) (M := M1) (by omega) (by omega) (by omega)⟩⟩
      · intro p y u
        rw [mset_n (by omega), mset_n (by omega), f1 p y u]
      · intro p y u
        rw [mset_n (by omega), mset_n (by omega), f2 p y u]
    · obtain ⟨_, hl, z⟩ := (nS x hx).1
      obtain ⟨a1, a2, a3, a4⟩ := z i hi
      rw [y2, y1, if_pos (show (0 : Int32) < sI (i + 1) by rw [show (0 : Int32) = sI 0 from rfl, sI_lt (by omega) (by omega)]; omega)]
      dsimp only
      rw [if_pos a3, a4]
      exact ⟨A1, M1, f1, f2, Or.inl ⟨i, hi, hk', rfl, rfl, hL, hH⟩⟩
  · rw [e1, mb3_s, if_pos (show (0 : Int32) = 0 from rfl), e2, mb3_s, if_pos (show (0 : Int32) = 0 from rfl)]
    exact ⟨A1, M1, f1, f2, Or.inr ⟨rfl, rfl, hX⟩⟩
theorem st_dat {fu n le a x X : Nat} {A M : mwM} {Lc Lm : mwL} {tx : Nat → Nat} {nl : List Nm} (hfu : 6100 ≤ fu) (h : Ld A M n tx le a) (hN : NaR A M n X nl) (hx : x < X) : ∃ A' M', fW A A' ∧ fR M M' ∧ ((∃ i, i < (nsL (2 + 2 * x) nl).length ∧ nwK tx le a = true ∧ DX8_toldName fu (sI (2 + 2 * x)) 5 A Lc = some (sI i, A', Lc) ∧ DX19_datum fu (sI x) M Lm = some (sI i, M', Lm) ∧ Ld A' M' n tx le (nwE tx le a) ∧ Hw A' M' (nwB tx le a) (nwE tx le a)) ∨ (DX8_toldName fu (sI (2 + 2 * x)) 5 A Lc = some (0, A', Lc) ∧ DX19_datum fu (sI x) M Lm = some (-1, M', Lm) ∧ Fx A' M')) := by
  obtain ⟨A1, M1, f1, f2, hr⟩ := st_must (fu := fu) (Lc := Lc) (Lm := Lm) hfu h
  have hN1 : NaR A1 M1 n X nl := NaR_f hN (fun x y u => f1 x y (by omega)) (fun x y u => f2 x y (by omega))
  unfold DX8_toldName DX19_datum
  rcases hr with ⟨hk', e1, e2, hL, hH⟩ | ⟨e1, e2, hX⟩
  · obtain ⟨w8, w9, m9, m10, hlt⟩ := id hH
    obtain ⟨l1, l2, l3, l4, l5, l6, l7, l8, l9⟩ := id hL
    obtain ⟨nC, nO, nM, nX, nS⟩ := hN1
    have hn := l1.2.1
    have ec := c_told (σ := 2 + 2 * x) (k := 5) (L := Lc) hfu l1 w8 w9 hlt (by omega) l9 nC nO (by omega) (by omega)
    rw [e1, mb3_s, if_neg (show ¬ (1 : Int32) = 0 by decide), e2, mb3_s, if_neg (show ¬ (1 : Int32) = 0 by decide)]
    rw [show (5 : Int32) = sI 5 from rfl, ec]
    obtain ⟨r, x1, x2⟩ := m_findDatum (fu := fu) (L := Lm) hfu l2 m9 m10 hlt (by omega) (show x < 12 by omega) (nS x hx).2 (NmO_s nO)
    rw [x1, mb3_s]
    rcases x2 with ⟨y1, y2⟩ | ⟨i, hi, y1, y2⟩
    · rw [y2, y1, if_neg (by decide), m_fail, mb3_s, if_pos (show (0 : Int32) = 0 from rfl), m9]
      refine ⟨_, _, ?_, ?_, Or.inr ⟨rfl, rfl, Fx_i (k := 4) (w := nwB tx le a) (M := M1) (by omega) (by omega) (by omega)⟩⟩
      · intro p y u
        rw [mset_n (by omega), mset_n (by omega), f1 p y u]
      · intro p y u
        rw [mset_n (by omega), mset_n (by omega), f2 p y u]
    · obtain ⟨_, hl, z⟩ := (nS x hx).2
      obtain ⟨a1, a2, a3, a4⟩ := z i hi
      rw [y2, y1, if_pos (show (0 : Int32) ≤ sI i by rw [show (0 : Int32) = sI 0 from rfl, sI_le (by omega) (by omega)]; omega)]
      dsimp only
      rw [if_pos a3, a4]
      exact ⟨A1, M1, f1, f2, Or.inl ⟨i, hi, hk', rfl, rfl, hL, hH⟩⟩
  · rw [e1, mb3_s, if_pos (show (0 : Int32) = 0 from rfl), e2, mb3_s, if_pos (show (0 : Int32) = 0 from rfl)]
    exact ⟨A1, M1, f1, f2, Or.inr ⟨rfl, rfl, hX⟩⟩
/-- the reference takes a word, if it comes -/
theorem m_takes {fu n le a : Nat} {a1 : Int64} {W : List Nat} {M : mwM} {L : mwL} {tx : Nat → Nat} (hfu : 6100 ≤ fu) (hT : TxM M n tx) (h6 : M 732 6 = sI a) (h7 : M 732 7 = sI le) (ha : a ≤ le) (hle : le ≤ n) (hW : okW W a1 0 = true) : ∃ M', fR M M' ∧ (if nwK tx le a = true ∧ isW tx (nwB tx le a) (nwE tx le a - nwB tx le a) W = true then DX19_takes fu a1 M L = some (1, M', L) ∧ M' 732 6 = sI (nwE tx le a) ∧ M' 732 9 = sI (nwB tx le a) ∧ M' 732 10 = sI (nwE tx le a) else DX19_takes fu a1 M L = some (0, M', L) ∧ M' 732 6 = sI a) := by
  obtain ⟨M1, m1, m2, m3, m4⟩ := m_next (fu := fu) (L := L) hfu hT h6 h7 ha hle
  obtain ⟨b1, b2, b3, b4, b5, b6, b7, _⟩ := nw_b (tx := tx) ha
  unfold DX19_takes fX19_takes_b23
  rw [mlet_e, h6, m1, mb3_s]
  cases hk : nwK tx le a with
  | false =>
    rw [bI_f, if_pos (show (0 : Int32) = 0 from rfl), mlet_e]
    refine ⟨mset M1 732 6 (sI a), fun x y u => by rw [mset_n (by omega), m4 x y (by omega)], ?_⟩
    rw [if_neg (fun z => absurd z.1 (by decide))]
    exact ⟨rfl, mset_s⟩
  | true =>
    obtain ⟨p1, p2, p3⟩ := m2 hk
    rw [bI_t, if_neg (show ¬ (1 : Int32) = 0 by decide), m_is9 (by omega) (TxM_f hT (fun x y u => m4 x y (by omega))) p2 p3 (b5 hk) (by omega) hW, mb3_s]
    cases hi : isW tx (nwB tx le a) (nwE tx le a - nwB tx le a) W with
    | false =>
      rw [bI_f, if_pos (show (0 : Int32) = 0 from rfl), mlet_e]
      refine ⟨mset M1 732 6 (sI a), fun x y u => by rw [mset_n (by omega), m4 x y (by omega)], ?_⟩
      rw [if_neg (fun z => absurd z.2 (by decide))]
      exact ⟨rfl, mset_s⟩
    | true =>
      rw [bI_t, if_neg (show ¬ (1 : Int32) = 0 by decide)]
      refine ⟨M1, fun x y u => m4 x y (by omega), ?_⟩
      rw [if_pos ⟨rfl, rfl⟩]
      exact ⟨rfl, p1, p2, p3⟩
theorem Ld_m {A M M' : mwM} {n le a : Nat} {tx : Nat → Nat} (h : Ld A M n tx le a) (hM : fR M M') (h6 : M' 732 6 = sI a) : Ld A M' n tx le a := by
  obtain ⟨h1, h2, h3, h4, h5, h6', h7, h8, h9⟩ := h
  exact ⟨h1, TxM_f h2 (fun x y u => hM x y (by omega)), h3, by rw [hM _ _ (by omega)]; exact h4, h5, h6', h6, h8, h9⟩
/-- an optional word: the class; and the reference's takes -/
theorem st_opt {fu n le a i : Nat} {a1 : Int64} {W : List Nat} {A M : mwM} {Lc Lm : mwL} {tx : Nat → Nat} (hfu : 6100 ≤ fu) (h : Ld A M n tx le a) (hW : okW W a1 0 = true) (hc : chB i 0 W = true) (hl : W.length = sln i) (hl2 : sln i ≤ 100) : ∃ A' M', fW A A' ∧ fR M M' ∧ ((nwK tx le a = true ∧ DX8_optional fu i A Lc = some (1, A', Lc) ∧ DX19_takes fu a1 M Lm = some (1, M', Lm) ∧ Ld A' M' n tx le (nwE tx le a) ∧ Hw A' M' (nwB tx le a) (nwE tx le a)) ∨ (nwK tx le a = false ∧ DX8_optional fu i A Lc = some (0, A', Lc) ∧ DX19_takes fu a1 M Lm = some (0, M', Lm) ∧ Ld A' (mset M' 732 6 (sI (nwB tx le a))) n tx le (nwB tx le a) ∧ M' 732 6 = sI a ∧ TxM M' n tx ∧ M' 732 7 = sI le) ∨ (nwK tx le a = true ∧ DX8_optional fu i A Lc = some (0, A', Lc) ∧ DX19_takes fu a1 M Lm = some (0, M', Lm) ∧ A' 1 12 = sI 2 ∧ A' 1 13 = sI (nwB tx le a) ∧ M' 732 6 = sI a ∧ TxM M' n tx ∧ M' 732 7 = sI le)) := by
  obtain ⟨hC, hM, h6, h7, hle, h5, h6', ha, h12⟩ := h
  have hn := hC.2.1
  obtain ⟨A1, e1, e2, e3, e4⟩ := c_next (fu := fu) (L := Lc) hfu hC h5 h6 ha hle
  obtain ⟨M1, m1, m2⟩ := m_takes (fu := fu) (L := Lm) hfu hM h6' h7 ha hle hW
  obtain ⟨b1, b2, b3, b4, b5, b6, b7, _⟩ := nw_b (tx := tx) ha
  have k12 : A1 1 12 = 0 := by rw [e4 _ _ (by omega)]; exact h12
  have hC1 : TxC A1 n tx := TxC_f hC (fun x y u => e4 x y (by omega))
  have hM1 : TxM M1 n tx := TxM_f hM (fun x y u => m1 x y (by omega))
  have q6 : A1 1 6 = sI le := by rw [e4 _ _ (by omega)]; exact h6
  have q7 : M1 732 7 = sI le := by rw [m1 _ _ (by omega)]; exact h7
  unfold DX8_optional
  rw [if_pos h12, e1, mb2_s]
  cases hk : nwK tx le a with
  | false =>
    obtain ⟨q1, q2, q3⟩ := e3 hk
    rw [if_neg (fun z => absurd (hk.symm.trans z.1) (by decide))] at m2
    refine ⟨A1, M1, fun x y u => e4 x y (by omega), m1, Or.inr (Or.inl ⟨rfl, ?_, m2.1, ⟨hC1, TxM_f hM1 (fun x y u => mset_n (by omega)), q6, by rw [mset_n (by omega)]; exact q7, hle, q1, mset_s, b2, k12⟩, m2.2, hM1, q7⟩)⟩
    unfold fX8_optional_b37 fX8_optional_b55 fX8_optional_b56
    rw [q3, if_pos (show sI 0 ≤ 0 by decide), if_pos (show sI 0 ≤ 0 by decide)]
    rfl
  | true =>
    obtain ⟨q1, q2, q3⟩ := e2 hk
    have hlt := b5 hk
    have nz : ¬ sI (nwE tx le a - nwB tx le a) ≤ 0 := by rw [show (0 : Int32) = sI 0 from rfl, sI_le (by omega) (by omega)]; omega
    rw [q3, if_neg nz, c_isWord (by omega) hC1 q2 q3 (by omega) hl hl2 hc, mb3_s]
    cases hi : isW tx (nwB tx le a) (nwE tx le a - nwB tx le a) W with
    | true =>
      rw [if_pos ⟨hk, hi⟩] at m2
      refine ⟨A1, M1, fun x y u => e4 x y (by omega), m1, Or.inl ⟨rfl, ?_, m2.1, ⟨hC1, hM1, q6, q7, hle, q1, m2.2.1, b4, k12⟩, q2, q3, m2.2.2.1, m2.2.2.2, hlt⟩⟩
      unfold fX8_optional_b37 fX8_optional_b55 fX8_optional_b56
      rw [bI_t, if_neg (show ¬ (1 : Int32) = 0 by decide), q3, if_neg nz, if_pos k12]
      rfl
    | false =>
      rw [if_neg (fun z => absurd (hi.symm.trans z.2) (by decide))] at m2
      refine ⟨mset (mset A1 1 12 (sI 2)) 1 13 (sI (nwB tx le a)), M1, fun x y u => by rw [mset_n (by omega), mset_n (by omega), e4 x y (by omega)], m1, Or.inr (Or.inr ⟨rfl, ?_, m2.1, by rw [mset_n (by omega), mset_s], mset_s, m2.2, hM1, q7⟩)⟩
      unfold fX8_optional_b37 fX8_optional_b55 fX8_optional_b56
      rw [bI_f, if_pos (show (0 : Int32) = 0 from rfl), c_fail k12, mb2_s, q2, mset_n (show ¬ (1 = 1 ∧ 9 = 13) by omega), mset_n (show ¬ (1 = 1 ∧ 9 = 12) by omega), q3, if_neg nz, if_neg (by
        rw [mset_n (by omega), mset_s]
        decide)]
      rfl
/-! READING: an optional word and the end of the line; an event or the time; a parent -/
theorem sp_i {tx : Nat → Nat} : ∀ r w, (r = 0 ∨ tx w ≠ 32) → spF tx r w = w := by
  intro r w h
  cases r with
  | zero => rfl
  | succ r =>
    unfold spF
    rw [if_neg (h.resolve_left (by omega))]
theorem nw_i {tx : Nat → Nat} {le a : Nat} (h : a ≤ le) : nwB tx le (nwB tx le a) = nwB tx le a ∧ nwK tx le (nwB tx le a) = nwK tx le a := by
  have e : nwB tx le (nwB tx le a) = nwB tx le a := by
    obtain ⟨h1, h2, h3⟩ := sp_b (tx := tx) (le - a) a
    have e1 : nwB tx le a = spF tx (le - a) a := rfl
    rw [← e1] at h1 h2 h3
    show spF tx (le - nwB tx le a) (nwB tx le a) = nwB tx le a
    refine sp_i _ _ ?_
    by_cases c : nwB tx le a < le
    · exact Or.inr (h3 (by omega))
    · exact Or.inl (by omega)
  refine ⟨e, ?_⟩
  show decide (nwB tx le (nwB tx le a) < le ∧ tx (nwB tx le (nwB tx le a)) ≠ 35) = decide (nwB tx le a < le ∧ tx (nwB tx le a) ≠ 35)
  rw [e]
theorem nf_opt {fu i : Nat} {A : mwM} {L : mwL} (h : ¬ A 1 12 = 0) : DX8_optional fu i A L = some (0, A, L) := by
  unfold DX8_optional
  rw [if_neg h]
/-- an optional word and then the end -/
theorem st_optEnd {fu n le a i : Nat} {a1 : Int64} {W : List Nat} {A M : mwM} {Lc Lm : mwL} {tx : Nat → Nat} (hfu : 6100 ≤ fu) (h : Ld A M n tx le a) (hW : okW W a1 0 = true) (hc : chB i 0 W = true) (hl : W.length = sln i) (hl2 : sln i ≤ 100) : ∃ (t : Bool) (A1 M1 : mwM), DX8_optional fu i A Lc = some (bI t, A1, Lc) ∧ DX19_takes fu a1 M Lm = some (bI t, M1, Lm) ∧ fW A A1 ∧ fR M M1 ∧ ∀ M2, (∀ x y, (x = 732 ∧ (y = 2 ∨ y = 6 ∨ y = 7)) ∨ x = 733 → M2 x y = M1 x y) → ∃ A3 M3, fW A1 A3 ∧ fR M2 M3 ∧ ((DX8_endLine fu A1 Lc = some (A3, Lc) ∧ DX19_end fu M2 Lm = some (1, M3, Lm) ∧ ∃ a3, a ≤ a3 ∧ Ld A3 M3 n tx le a3) ∨ (DX8_endLine fu A1 Lc = some (A3, Lc) ∧ DX19_end fu M2 Lm = some (0, M3, Lm) ∧ Fx A3 M3)) := by
  obtain ⟨A1, M1, f1, f2, hr⟩ := st_opt (fu := fu) (Lc := Lc) (Lm := Lm) hfu h hW hc hl hl2
  obtain ⟨_, _, _, _, hle, _, _, ha, _⟩ := id h
  have hn := h.1.2.1
  obtain ⟨b1, b2, b3, b4, b5, b6, b7, _⟩ := nw_b (tx := tx) ha
  rcases hr with ⟨hk, e1, e2, hL, hH⟩ | ⟨hk, e1, e2, hL, m6, hT, m7⟩ | ⟨hk, e1, e2, w12, w13, m6, hT, m7⟩
  · refine ⟨true, A1, M1, e1, e2, f1, f2, fun M2 h2 => ?_⟩
    obtain ⟨A3, M3, g1, g2, hz⟩ := st_eol (fu := fu) (Lc := Lc) (Lm := Lm) hfu (Ld_n hL h2)
    obtain ⟨c1, c2, _⟩ := nw_b (tx := tx) (show nwE tx le a ≤ le from b4)
    rcases hz with ⟨z1, z2, z3, z4⟩ | ⟨z2, z3, z4⟩
    · exact ⟨A3, M3, g1, g2, Or.inl ⟨z2, z3, _, by omega, z4⟩⟩
    · exact ⟨A3, M3, g1, g2, Or.inr ⟨z2, z3, z4⟩⟩
  · refine ⟨false, A1, M1, e1, e2, f1, f2, fun M2 h2 => ?_⟩
    obtain ⟨l1, l2, l3, l4, l5, l6, l7, l8, l9⟩ := hL
    obtain ⟨i1, i2⟩ := nw_i (tx := tx) ha
    obtain ⟨A3, q1, q2, q3, q4⟩ := c_next (fu := fu) (L := Lc) hfu l1 l6 l3 l8 l5
    obtain ⟨M3, p1, p2, p3, p4⟩ := m_next (fu := fu) (L := Lm) hfu (TxM_f hT (fun x y u => h2 x y (by omega))) (show M2 732 6 = sI a by rw [h2 _ _ (by omega)]; exact m6) (show M2 732 7 = sI le by rw [h2 _ _ (by omega)]; exact m7) ha hle
    obtain ⟨r1, r2, r3⟩ := q3 (by rw [i2]; exact hk)
    rw [i1] at r1
    refine ⟨A3, M3, fun x y u => q4 x y (by omega), fun x y u => p4 x y (by omega), Or.inl ⟨?_, ?_, nwB tx le a, by omega, TxC_f l1 (fun x y u => q4 x y (by omega)), TxM_f hT (fun x y u => by rw [p4 x y (by omega), h2 x y (by omega)]), by rw [q4 _ _ (by omega)]; exact l3, by rw [p4 _ _ (by omega), h2 _ _ (by omega)]; exact m7, hle, r1, p3 hk, b2, by rw [q4 _ _ (by omega)]; exact l9⟩⟩
    · unfold DX8_endLine fX8_endLine_b28
      rw [if_pos l9, q1, mb2_s, r3, if_pos (show sI 0 ≤ 0 by decide)]
    · unfold DX19_end fX19_end_b19 fX19_end_b24
      rw [p1, mb3_s, hk, bI_f, if_pos (show (0 : Int32) = 0 from rfl)]
      rfl
  · refine ⟨false, A1, M1, e1, e2, f1, f2, fun M2 h2 => ?_⟩
    obtain ⟨M3, p1, p2, p3, p4⟩ := m_next (fu := fu) (L := Lm) hfu (TxM_f hT (fun x y u => h2 x y (by omega))) (show M2 732 6 = sI a by rw [h2 _ _ (by omega)]; exact m6) (show M2 732 7 = sI le by rw [h2 _ _ (by omega)]; exact m7) ha hle
    obtain ⟨u1, u2, u3⟩ := p2 hk
    refine ⟨A1, mset (mset M3 732 11 2) 732 12 (sI (nwB tx le a)), fun _ _ _ => rfl, fun x y u => by rw [mset_n (by omega), mset_n (by omega), p4 x y (by omega)], Or.inr ⟨nf_end (by rw [w12]; decide), ?_, ⟨2, nwB tx le a, by omega, by omega, by omega, w12, by rw [mset_n (by omega), mset_s]; rfl, w13, mset_s⟩⟩⟩
    unfold DX19_end fX19_end_b19 fX19_end_b24
    rw [p1, mb3_s, hk, bI_t, if_neg (show ¬ (1 : Int32) = 0 by decide), m_fail, mb3_s, if_pos (show (0 : Int32) = 0 from rfl), u2]
    rfl
theorem ok_time : okW [116, 105, 109, 101] 1701669236 0 = true := by decide +kernel
theorem ok_top : okW [116, 111, 112] 7368564 0 = true := by decide +kernel
theorem ok_more : okW [109, 111, 114, 101] 1701998445 0 = true := by decide +kernel
theorem ok_turned : okW [116, 117, 114, 110, 101, 100] 110386807469428 0 = true := by decide +kernel
theorem ok_if : okW [105, 102] 26217 0 = true := by decide +kernel
theorem nf_event {fu : Nat} {a1 : Int32} {A : mwM} {L : mwL} (h : ¬ A 1 12 = 0) : DX8_eventOrTime fu a1 A L = some (0, A, L) := by
  unfold DX8_eventOrTime
  rw [nf_fetch h, mb3_s, if_pos rfl]
theorem nf_parent {fu : Nat} {a1 : Int32} {A : mwM} {L : mwL} (h : ¬ A 1 12 = 0) : DX8_parentState fu a1 A L = some (0, A, L) := by
  unfold DX8_parentState fX8_parentState_b17
  rw [nf_fetch h, mb3_s, if_pos rfl]
/-- an event, or the time -/
theorem st_event {fu n le a f : Nat} {A M : mwM} {Lc Lm : mwL} {tx : Nat → Nat} (K : Int32 → mwM → mwL → Option (Int32 × mwM × mwL)) (hfu : 6100 ≤ fu) (h : Ld A M n tx le a) (hf : f ≤ 200) : ∃ A' M', fW A A' ∧ fRn M M' ∧ ((∃ ev, (ev < 100 ∨ ev = 1000 + f) ∧ nwK tx le a = true ∧ DX8_eventOrTime fu (sI f) A Lc = some (sI ev, A', Lc) ∧ mb3 (DX19_takes fu 1701669236 M Lm) (fun r9 M7 L8 => (if r9 = 0 then mb3 (DX19_number fu 0 99 M7 L8) (fun r13 M11 L12 => (if r13 = 0 then some (0, M11, L12) else mlet (M11 732 13) (fun x15 => K x15 M11 L12))) else K (sI (1000 + f)) M7 L8)) = K (sI ev) M' Lm ∧ Ld A' M' n tx le (nwE tx le a)) ∨ (DX8_eventOrTime fu (sI f) A Lc = some (0, A', Lc) ∧ mb3 (DX19_takes fu 1701669236 M Lm) (fun r9 M7 L8 => (if r9 = 0 then mb3 (DX19_number fu 0 99 M7 L8) (fun r13 M11 L12 => (if r13 = 0 then some (0, M11, L12) else mlet (M11 732 13) (fun x15 => K x15 M11 L12))) else K (sI (1000 + f)) M7 L8)) = some (0, M', Lm) ∧ Fx A' M')) := by
  obtain ⟨_, hTM, _, h7, hle, _, h6, ha, _⟩ := id h
  have hn := h.1.2.1
  obtain ⟨b1, b2, b3, b4, b5, b6, b7, _⟩ := nw_b (tx := tx) ha
  obtain ⟨M1, m1, m2⟩ := m_takes (fu := fu) (L := Lm) hfu hTM h6 h7 ha hle ok_time
  obtain ⟨A1, Mx, g1, g2, hr⟩ := st_must (fu := fu) (Lc := Lc) (Lm := Lm) hfu h
  by_cases cT : nwK tx le a = true ∧ isW tx (nwB tx le a) (nwE tx le a - nwB tx le a) [116, 105, 109, 101] = true
  · rw [if_pos cT] at m2
    rcases hr with ⟨hk, e1, e2, hL, hH⟩ | ⟨e1, e2, hX⟩
    · obtain ⟨l1, l2, l3, l4, l5, l6, l7, l8, l9⟩ := id hL
      obtain ⟨w8, w9, m9, m10, hlt⟩ := id hH
      refine ⟨A1, M1, g1, fun x y u => m1 x y (by omega), Or.inl ⟨1000 + f, Or.inr rfl, hk, ?_, ?_, l1, TxM_f hTM (fun x y u => m1 x y (by omega)), l3, by rw [m1 _ _ (by omega)]; exact h7, hle, l6, m2.2.1, b4, l9⟩⟩
      · unfold DX8_eventOrTime fX8_eventOrTime_b34
        rw [e1, mb3_s, if_neg (show ¬ (1 : Int32) = 0 by decide), c_isWord (by omega) l1 w8 w9 (by omega) rfl (by decide) ch_time, mb3_s, cT.2, bI_t, if_neg (show ¬ (1 : Int32) = 0 by decide), show (1000 : Int32) + sI f = sI (1000 + f) from sI_lad]
      · rw [m2.1, mb3_s, if_neg (show ¬ (1 : Int32) = 0 by decide)]
    · exfalso
      have := Fx_n hX
      obtain ⟨A9, M9, k1, k2, k3⟩ := st_must (fu := fu) (Lc := Lc) (Lm := Lm) hfu h
      have e3 : DX8_nextWord fu A Lc = DX8_nextWord fu A Lc := rfl
      obtain ⟨A8, c1, c2, c3, c4⟩ := c_next (fu := fu) (L := Lc) hfu h.1 h.2.2.2.2.2.1 h.2.2.1 ha hle
      unfold DX8_fetchWord fX8_fetchWord_b29 fX8_fetchWord_b41 at e1
      obtain ⟨q1, q2, q3⟩ := c2 cT.1
      have hlt := b5 cT.1
      rw [if_pos h.2.2.2.2.2.2.2.2, c1, mb2_s, q3, if_neg (show ¬ sI (nwE tx le a - nwB tx le a) = 0 by rw [show (0 : Int32) = sI 0 from rfl, sI_eq (by omega) (by omega)]; omega), if_neg (show ¬ sI (nwE tx le a - nwB tx le a) ≤ 0 by rw [show (0 : Int32) = sI 0 from rfl, sI_le (by omega) (by omega)]; omega)] at e1
      have := Option.some.inj e1
      have := congrArg Prod.fst this
      dsimp only at this
      exact absurd this (by decide)
  · rw [if_neg cT] at m2
    have hL1 := Ld_m h m1 m2.2
    obtain ⟨A2, M2, f1, f2, hz⟩ := st_number (fu := fu) (a1 := 0) (a2 := 99) (Lc := Lc) (Lm := Lm) hfu hL1
    rw [m2.1, mb3_s, if_pos (show (0 : Int32) = 0 from rfl)]
    have fM : fRn M M2 := fun x y u => by rw [f2 x y u, m1 x y (by omega)]
    -- the class reads a number as well
    have eq : nwK tx le a = true → DX8_eventOrTime fu (sI f) A Lc = DX8_number fu 0 99 A Lc := by
      intro hk
      rcases hr with ⟨hk, e1, e2, hL, hH⟩ | ⟨e1, e2, hX⟩
      · obtain ⟨l1, l2, l3, l4, l5, l6, l7, l8, l9⟩ := id hL
        obtain ⟨w8, w9, m9, m10, hlt⟩ := id hH
        have hi : isW tx (nwB tx le a) (nwE tx le a - nwB tx le a) [116, 105, 109, 101] = false := by
          cases hh : isW tx (nwB tx le a) (nwE tx le a - nwB tx le a) [116, 105, 109, 101] with
          | true => exact absurd ⟨hk, hh⟩ cT
          | false => rfl
        unfold DX8_eventOrTime DX8_number fX8_eventOrTime_b34 fX8_number_b17
        rw [e1, mb3_s, mb3_s, if_neg (show ¬ (1 : Int32) = 0 by decide), if_neg (show ¬ (1 : Int32) = 0 by decide), c_isWord (by omega) l1 w8 w9 (by omega) rfl (by decide) ch_time, mb3_s, hi, bI_f, if_pos (show (0 : Int32) = 0 from rfl)]
      · unfold DX8_eventOrTime DX8_number fX8_number_b17
        rw [e1, mb3_s, mb3_s, if_pos (show (0 : Int32) = 0 from rfl), if_pos (show (0 : Int32) = 0 from rfl)]
    have eq2 : nwK tx le a = false → DX8_eventOrTime fu (sI f) A Lc = DX8_number fu 0 99 A Lc := by
      intro hk
      rcases hr with ⟨hk', _⟩ | ⟨e1, e2, hX⟩
      · rw [hk] at hk'
        exact absurd hk' (by decide)
      · unfold DX8_eventOrTime DX8_number fX8_number_b17
        rw [e1, mb3_s, mb3_s, if_pos (show (0 : Int32) = 0 from rfl), if_pos (show (0 : Int32) = 0 from rfl)]
    have eq3 : DX8_eventOrTime fu (sI f) A Lc = DX8_number fu 0 99 A Lc := by
      cases hk : nwK tx le a with
      | true => exact eq hk
      | false => exact eq2 hk
    rw [eq3]
    rcases hz with ⟨hk, hb, hlo, hhi, e1, e2, h13, hL, hH⟩ | ⟨e1, e2, hX⟩
    · obtain ⟨v, v1, v2, v3⟩ := nu_nat (lo := 0) (hi := 99) hb hlo hhi (by omega) (by omega)
      rw [e2, mb3_s, if_neg (show ¬ (1 : Int32) = 0 by decide), mlet_e, h13, v1]
      rw [v1] at e1
      exact ⟨A2, M2, f1, fM, Or.inl ⟨v, Or.inl (by omega), hk, e1, rfl, hL⟩⟩
    · rw [e2, mb3_s, if_pos (show (0 : Int32) = 0 from rfl)]
      exact ⟨A2, M2, f1, fM, Or.inr ⟨e1, rfl, hX⟩⟩
/-- a word must come -/
theorem st_mustF {fu n le a : Nat} {A M : mwM} {Lc Lm : mwL} {tx : Nat → Nat} (hfu : 6100 ≤ fu) (h : Ld A M n tx le a) : ∃ A' M', fW A A' ∧ fR M M' ∧ ((nwK tx le a = true ∧ DX8_fetchWord fu A Lc = some (1, A', Lc) ∧ DX19_must fu M Lm = some (1, M', Lm) ∧ Ld A' M' n tx le (nwE tx le a) ∧ Hw A' M' (nwB tx le a) (nwE tx le a)) ∨ (nwK tx le a = false ∧ DX8_fetchWord fu A Lc = some (0, A', Lc) ∧ DX19_must fu M Lm = some (0, M', Lm) ∧ Fx A' M')) := by
  obtain ⟨hC, hM, h6, h7, hle, h5, h6', ha, h12⟩ := h
  have hn := hC.2.1
  obtain ⟨A1, e1, e2, e3, e4⟩ := c_next (fu := fu) (L := Lc) hfu hC h5 h6 ha hle
  obtain ⟨M1, m1, m2, m3, m4⟩ := m_next (fu := fu) (L := Lm) hfu hM h6' h7 ha hle
  obtain ⟨b1, b2, b3, b4, b5, b6, b7, _⟩ := nw_b (tx := tx) ha
  have k12 : A1 1 12 = 0 := by rw [e4 _ _ (by omega)]; exact h12
  unfold DX8_fetchWord DX19_must fX8_fetchWord_b29 fX8_fetchWord_b41 fX19_must_b19 fX19_must_b24
  rw [if_pos h12, e1, mb2_s, m1, mb3_s]
  cases hk : nwK tx le a with
  | true =>
    obtain ⟨q1, q2, q3⟩ := e2 hk
    obtain ⟨p1, p2, p3⟩ := m2 hk
    have hlt := b5 hk
    refine ⟨A1, M1, fun x y u => e4 x y (by omega), fun x y u => m4 x y (by omega), Or.inl ⟨rfl, ?_, ?_, ⟨TxC_f hC (fun x y u => e4 x y (by omega)), TxM_f hM (fun x y u => m4 x y (by omega)), by rw [e4 _ _ (by omega)]; exact h6, by rw [m4 _ _ (by omega)]; exact h7, hle, q1, p1, b4, k12⟩, ⟨q2, q3, p2, p3, hlt⟩⟩⟩
    · rw [q3, if_neg (show ¬ sI (nwE tx le a - nwB tx le a) = 0 by rw [show (0 : Int32) = sI 0 from rfl, sI_eq (by omega) (by omega)]; omega), if_neg (show ¬ sI (nwE tx le a - nwB tx le a) ≤ 0 by rw [show (0 : Int32) = sI 0 from rfl, sI_le (by omega) (by omega)]; omega)]
      rfl
    · rw [bI_t, if_neg (by decide)]
      rfl
  | false =>
    obtain ⟨q1, q2, q3⟩ := e3 hk
    have p1 := m3 hk
    refine ⟨mset (mset A1 1 12 (sI 2)) 1 13 (sI le), mset (mset M1 732 11 (sI 2)) 732 12 (sI le), fun x y u => by rw [mset_n (by omega), mset_n (by omega), e4 x y (by omega)], fun x y u => by rw [mset_n (by omega), mset_n (by omega), m4 x y (by omega)], Or.inr ⟨rfl, ?_, ?_, Fx_i (by omega) (by omega) (by omega)⟩⟩
    · rw [q3, if_pos (show sI 0 = 0 from rfl), c_fail k12, mb2_s, q2, mset_n (show ¬ (1 = 1 ∧ 9 = 13) by omega), mset_n (show ¬ (1 = 1 ∧ 9 = 12) by omega), q3, if_pos (show sI 0 ≤ 0 by decide)]
      rfl
    · rw [bI_f, if_pos rfl, m_fail, mb3_s, if_pos rfl, m4 _ _ (by omega), h7]
      rfl
/-- the parent of a state -/
theorem st_parent {fu n le a x X : Nat} {A M : mwM} {Lc Lm : mwL} {tx : Nat → Nat} {nl : List Nm} (K : Int32 → mwM → mwL → Option (Int32 × mwM × mwL)) (hfu : 6100 ≤ fu) (h : Ld A M n tx le a) (hN : NaR A M n X nl) (hx : x < X) : ∃ A' M', fW A A' ∧ fR M M' ∧ ((∃ v, v ≤ (nsL (1 + 2 * x) nl).length ∧ nwK tx le a = true ∧ DX8_parentState fu (sI x) A Lc = some (sI v, A', Lc) ∧ mb3 (DX19_takes fu 7368564 M Lm) (fun r9 M7 L8 => (if r9 = 0 then mb3 (DX19_state fu (sI x) M7 L8) (fun r13 M11 L12 => K r13 M11 L12) else K 0 M7 L8)) = K (sI v) M' Lm ∧ Ld A' M' n tx le (nwE tx le a)) ∨ (DX8_parentState fu (sI x) A Lc = some (0, A', Lc) ∧ mb3 (DX19_takes fu 7368564 M Lm) (fun r9 M7 L8 => (if r9 = 0 then mb3 (DX19_state fu (sI x) M7 L8) (fun r13 M11 L12 => K r13 M11 L12) else K 0 M7 L8)) = K (-1) M' Lm ∧ Fx A' M')) := by
  obtain ⟨_, hTM, _, h7, hle, _, h6, ha, _⟩ := id h
  have hn := h.1.2.1
  obtain ⟨b1, b2, b3, b4, b5, b6, b7, _⟩ := nw_b (tx := tx) ha
  obtain ⟨M1, m1, m2⟩ := m_takes (fu := fu) (L := Lm) hfu hTM h6 h7 ha hle ok_top
  by_cases cT : nwK tx le a = true ∧ isW tx (nwB tx le a) (nwE tx le a - nwB tx le a) [116, 111, 112] = true
  · rw [if_pos cT] at m2
    obtain ⟨A1, Mx, g1, g2, hr⟩ := st_mustF (fu := fu) (Lc := Lc) (Lm := Lm) hfu h
    rcases hr with ⟨hk, e1, e2, hL, hH⟩ | ⟨hk, e1, e2, hX⟩
    · obtain ⟨l1, l2, l3, l4, l5, l6, l7, l8, l9⟩ := id hL
      obtain ⟨w8, w9, m9, m10, hlt⟩ := id hH
      refine ⟨A1, M1, g1, m1, Or.inl ⟨0, by omega, hk, ?_, ?_, l1, TxM_f hTM (fun x y u => m1 x y (by omega)), l3, by rw [m1 _ _ (by omega)]; exact h7, hle, l6, m2.2.1, b4, l9⟩⟩
      · unfold DX8_parentState fX8_parentState_b17
        rw [e1, mb3_s, if_neg (show ¬ (1 : Int32) = 0 by decide), c_isWord (by omega) l1 w8 w9 (by omega) rfl (by decide) ch_top, mb3_s, cT.2, bI_t, if_neg (show ¬ (1 : Int32) = 0 by decide)]
        rfl
      · rw [m2.1, mb3_s, if_neg (show ¬ (1 : Int32) = 0 by decide)]
        rfl
    · rw [hk] at cT
      exact absurd cT.1 (by decide)
  · rw [if_neg cT] at m2
    have hL1 := Ld_m h m1 m2.2
    have hN1 : NaR A M1 n X nl := NaR_f hN (fun _ _ _ => rfl) (fun x y u => m1 x y (by omega))
    rw [m2.1, mb3_s, if_pos (show (0 : Int32) = 0 from rfl)]
    obtain ⟨A2, M2, f1, f2, hr⟩ := st_mustF (fu := fu) (Lc := Lc) (Lm := Lm) hfu hL1
    have fM : fR M M2 := fun x y u => by rw [f2 x y u, m1 x y u]
    have hN2 : NaR A2 M2 n X nl := NaR_f hN1 (fun x y u => f1 x y (by omega)) (fun x y u => f2 x y (by omega))
    unfold DX8_parentState DX19_state fX8_parentState_b17
    rcases hr with ⟨hk, e1, e2, hL, hH⟩ | ⟨hk, e1, e2, hX⟩
    · obtain ⟨l1, l2, l3, l4, l5, l6, l7, l8, l9⟩ := id hL
      obtain ⟨w8, w9, m9, m10, hlt⟩ := id hH
      obtain ⟨nC, nO, nM, nX, nS⟩ := hN2
      have hi : isW tx (nwB tx le a) (nwE tx le a - nwB tx le a) [116, 111, 112] = false := by
        cases hh : isW tx (nwB tx le a) (nwE tx le a - nwB tx le a) [116, 111, 112] with
        | true => exact absurd ⟨hk, hh⟩ cT
        | false => rfl
      obtain ⟨r, x1, x2⟩ := c_findName (fu := fu) (σ := 1 + 2 * x) (L := Lc) hfu l1 w8 w9 (by omega) nC nO (by omega)
      obtain ⟨r', y1, y2⟩ := m_findState (fu := fu) (L := Lm) hfu l2 m9 m10 hlt (by omega) (show x < 12 by omega) (nS x hx).1 (NmO_s nO)
      rw [e1, mb3_s, if_neg (show ¬ (1 : Int32) = 0 by decide), c_isWord (by omega) l1 w8 w9 (by omega) rfl (by decide) ch_top, mb3_s, hi, bI_f, if_pos (show (0 : Int32) = 0 from rfl)]
      unfold DX8_statesOf
      rw [mb3_s, show (1 : Int32) + 2 * sI x = sI (1 + 2 * x) by rw [show (2 : Int32) * sI x = sI (2 * x) from sI_lml]; exact sI_lad, x1, mb3_s, e2, mb3_s, if_neg (show ¬ (1 : Int32) = 0 by decide), y1, mb3_s]
      rcases y2 with ⟨y2, y3⟩ | ⟨j, hj, y2, y3⟩
      · rcases x2 with ⟨x2, x3⟩ | ⟨i, hi, x2, x3⟩
        · rw [x2, if_neg (by decide), c_fail l9, mb2_s, w8, y2, if_neg (by decide), m_fail, mb3_s, if_pos (show (0 : Int32) = 0 from rfl), m9]
          unfold fX19_state_b36
          rw [mb3_s]
          refine ⟨_, _, ?_, ?_, Or.inr ⟨rfl, rfl, Fx_i (k := 4) (w := nwB tx le a) (M := M2) (by omega) (by omega) (by omega)⟩⟩
          · intro p y u
            rw [mset_n (by omega), mset_n (by omega), f1 p y u]
          · intro p y u
            rw [mset_n (by omega), mset_n (by omega), fM p y u]
        · rw [y3] at x3
          exact absurd x3 (by simp)
      · rcases x2 with ⟨x2, x3⟩ | ⟨i, hi, x2, x3⟩
        · rw [y3] at x3
          exact absurd x3 (by simp)
        · obtain ⟨a1, a2, a3, a4, a5⟩ := nC.2.2 i hi
          have hl := nC.2.1
          obtain ⟨_, hl2, z⟩ := (nS x hx).1
          obtain ⟨c1, c2, c3, c4⟩ := z j hj
          rw [y3] at x3
          have ee := Option.some.inj x3
          rw [x2, if_pos (show (0 : Int32) ≤ sI i by rw [show (0 : Int32) = sI 0 from rfl, sI_le (by omega) (by omega)]; omega), mck_s (by omega) (by omega), sI_nn (by omega), a5, ← ee, c4, y2, if_pos (show (0 : Int32) < sI (j + 1) by rw [show (0 : Int32) = sI 0 from rfl, sI_lt (by omega) (by omega)]; omega)]
          unfold fX19_state_b31 fX19_state_b36
          rw [mb3_s]
          exact ⟨A2, M2, f1, fM, Or.inl ⟨j + 1, by omega, hk, rfl, rfl, hL⟩⟩
    · rw [e1, mb3_s, if_pos (show (0 : Int32) = 0 from rfl), e2, mb3_s, if_pos (show (0 : Int32) = 0 from rfl), mb3_s]
      exact ⟨A2, M2, f1, fM, Or.inr ⟨rfl, rfl, hX⟩⟩
