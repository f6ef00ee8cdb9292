/-! A MICROSECOND: frames are sent, a bit passes, the cores work, time goes on -/
theorem st_m1 {fu C S F W R X T t E : Nat} {d : Nat → Nat → Nat} {tu : Nat → Bool} {g : Nat → Nat → Nat} {own Sb bd : Nat → Nat} {si : Nat → Bool} {p : PB} {o : Nat → Nat → Nat} {e ec tc fl : Nat → Nat} {A M : mwM} {Lc Lm : mwL} (hfu : 5000 ≤ fu) (ht : t < 20000) (hZ : CAR A M Lc Lm C S F W R X T t E d tu g own Sb bd si p o e ec tc fl) : ∃ (A' M' : mwM) (Lm' : mwL) (ec' tc' : Nat → Nat) (mk fr : Nat), DX1_passMicrosecond fu A Lc = (if (A' 20 12) = 0 then fX1_passMicrosecond_b54 fu A' Lc else mb2 (DX1_takeFrames fu A' Lc) (fun M23 L24 => fX1_passMicrosecond_b54 fu M23 L24)) ∧ DX19_microsecond fu M Lm = fX19_microsecond_h118 fu fu (0, M', Lm') ∧ mk < 128 ∧ LkZ A' M' Lc Lm' C S F W R X (t + 1) E d tu g own Sb bd p o e ec' tc tc' fl mk 0 ∧ SlW A' M' C S F W X T (t + 1) d tu g si ∧ RCo A' M' Lm' T C (t + 1) ∧ TsR A' M' Lm' T X fr ∧ (∀ x, x < X → CxR A' M' Lc Lm' (t + 1) x) ∧ (∀ i, i < T → A' 17 i = if fr.testBit i = true then M' 748 i + 1 else M' 748 i) ∧ A' 292 0 = M' 939 0 ∧ A' 292 4 = M' 939 4 ∧ kpM X M M' ∧ kpL X Lm Lm' ∧ kpA A A' := by
  obtain ⟨hTk, hTr, hp, hBu, hSl, hCo, hCx, h17, h924, h0, h4, hE, hbd⟩ := hZ
  obtain ⟨kS, kO, kR, kQ, kW, kT, kC, kK, kN, k1, k2, k16, k83, kt⟩ := id hTk
  obtain ⟨w1, w2, w3, w4, w5, w6, w7, w8, w9, w10, w11, w12, w13⟩ := id hSl
  have hN := hTr.2.2.2.1
  have hv := hTr.1
  have hob := hN.2.2.2.2.2.1
  have hob2 : (obL p.1 p.2).length < 6001 := by
    have := ob_len (n := p.1) (b := p.2)
    have := Tf_F hv
    have := hv.1.2.1
    omega
  obtain ⟨A1, M1, s1, s2, s3, s4, s5, s6, s7, s8, s9, s10, s11⟩ := st_sendFrames (fu := fu) (Lc := Lc) (Lm := Lm) (by omega) ht kS w1 (fun s hs => by
    obtain ⟨_, _, _, _, _, q⟩ := kQ (d 4 s) (w5 s hs)
    rw [q]) w2 w3 kC kK hBu (fun f hf => by have := w4 f hf; omega) h0 hob hob2 w6 k83
  obtain ⟨Fb, ow, idb, ocb, dnb, asl, hBR⟩ := s8
  obtain ⟨A2, M2, x2, dn', ec', tc', asl', mk, b1, b2, b3, b4, b5, b6, b7⟩ := st_bit (fu := fu) (Lc := Lc) (Lm := Lm) (by omega) ht hBR
  have fA2 : ∀ a y, a ≠ 77 → a ≠ 79 → ¬ (95 ≤ a ∧ a ≤ 96) → ¬ (137 ≤ a ∧ a ≤ 138) → ¬ (20 ≤ a ∧ a ≤ 60) → ¬ (a = 292 ∧ y = 0) → ¬ (a = 61 ∧ y = 14) → A2 a y = A a y := fun a y u1 u2 u3 u4 u5 u6 u7 => by rw [b6 a y u5, s10 a y u1 u2 u3 u4 u5 u6 u7]
  have fM2 : ∀ a y, a ≠ 785 → a ≠ 926 → ¬ (a = 854 ∧ (y = 0 ∨ y = 6 ∨ y = 7)) → a ≠ 858 → a ≠ 859 → ¬ (863 ≤ a ∧ a ≤ 867) → ¬ (821 ≤ a ∧ a ≤ 853) → ¬ (a = 939 ∧ y = 0) → ¬ (941 ≤ a ∧ (((a - 941) % 53 = 0 ∧ y = 0) ∨ (a - 941) % 53 = 15 ∨ ((a - 941) % 53 = 23 ∧ y = 0))) → M2 a y = M a y := fun a y u1 u2 u3 u4 u5 u6 u7 u8 u9 => by rw [b7 a y u7, s11 a y u1 u2 u3 u4 u5 u6 u7 u8 u9]
  have hCo2 : RCo A2 M2 Lm T C t := RCo_w hCo (fun a y u1 u2 => fA2 a y (by omega) (by omega) (by omega) (by omega) (by omega) (by omega) (by omega)) (fun a y u1 u2 => fM2 a y (by omega) (by omega) (by omega) (by omega) (by omega) (by omega) (by omega) (by omega) (by omega)) (fun _ _ _ _ => rfl)
  have hT12 : T ≤ 12 := by
    obtain ⟨_, _, _, _, q, _⟩ := hCo
    exact q.1
  have h787 : M2 787 1 = sI T := by
    obtain ⟨_, _, _, _, q, _⟩ := hCo2
    exact q.2.2.2.2.2.1
  have h24 : M2 732 24 = sI T := by rw [fM2 _ _ (by omega) (by omega) (by omega) (by omega) (by omega) (by omega) (by omega) (by omega) (by omega)]; exact w11
  obtain ⟨L2, f1, f2, f3⟩ := m_before (fu := fu) (L := Lm) (by omega) hT12 h24 h787
  have hCo3 : RCo A2 M2 L2 T C t := RCo_w hCo2 (fun _ _ _ _ => rfl) (fun _ _ _ _ => rfl) (fun a y u1 u2 => f3 a y (by omega))
  obtain ⟨A3, c1, ⟨⟨r3, M3, L3⟩, c2, c3, ⟨fr, c4, c5, c6⟩, c7, c8, c9⟩⟩ := st_cores (fu := fu) (Lc := Lc) (by omega) ht hCo3
  dsimp only at c3 c6 c8 c9
  have a16 : A3 3 16 = sI t := by rw [c7 _ _ (by omega) (by omega), fA2 _ _ (by omega) (by omega) (by omega) (by omega) (by omega) (by omega) (by omega)]; exact k16
  have m83 : M3 732 83 = sI t := by rw [c8 _ _ (by omega), fM2 _ _ (by omega) (by omega) (by omega) (by omega) (by omega) (by omega) (by omega) (by omega) (by omega)]; exact k83
  generalize hA4 : mset A3 3 16 (sI (t + 1)) = A4
  generalize hM4 : mset M3 732 83 (sI (t + 1)) = M4
  have tA4 : ∀ a y, ¬ (a = 3 ∧ y = 16) → A4 a y = A3 a y := fun a y u => by rw [← hA4, mset_n u]
  have tM4 : ∀ a y, ¬ (a = 732 ∧ y = 83) → M4 a y = M3 a y := fun a y u => by rw [← hM4, mset_n u]
  -- frames behind the bit
  have gA : ∀ a y, a ≠ 5 → ¬ (11 ≤ a ∧ a ≤ 19) → ¬ (a = 3 ∧ y = 16) → A4 a y = A2 a y := fun a y u1 u2 u3 => by rw [tA4 a y u3, c7 a y u1 u2]
  have gM : ∀ a y, (a < 787 ∨ 820 < a) → ¬ (a = 732 ∧ y = 83) → M4 a y = M2 a y := fun a y u1 u2 => by rw [tM4 a y u2, c8 a y u1]
  have gL : ∀ a y, (a < 787 ∨ 820 < a) → a ≠ 925 → L3 a y = Lm a y := fun a y u1 u2 => by rw [c9 a y u1, f3 a y u2]
  have fA : ∀ a y, a ≠ 5 → ¬ (11 ≤ a ∧ a ≤ 60) → ¬ (a = 3 ∧ y = 16) → a ≠ 77 → a ≠ 79 → ¬ (95 ≤ a ∧ a ≤ 96) → ¬ (137 ≤ a ∧ a ≤ 138) → ¬ (a = 292 ∧ y = 0) → ¬ (a = 61 ∧ y = 14) → A4 a y = A a y := fun a y u1 u2 u3 u4 u5 u6 u7 u8 u9 => by rw [gA a y u1 (by omega) u3, fA2 a y u4 u5 u6 u7 (by omega) u8 u9]
  have fM : ∀ a y, ¬ (785 ≤ a ∧ a ≤ 853) → ¬ (a = 732 ∧ y = 83) → a ≠ 926 → ¬ (a = 854 ∧ (y = 0 ∨ y = 6 ∨ y = 7)) → a ≠ 858 → a ≠ 859 → ¬ (863 ≤ a ∧ a ≤ 867) → ¬ (a = 939 ∧ y = 0) → ¬ (941 ≤ a ∧ (((a - 941) % 53 = 0 ∧ y = 0) ∨ (a - 941) % 53 = 15 ∨ ((a - 941) % 53 = 23 ∧ y = 0))) → M4 a y = M a y := fun a y u1 u2 u3 u4 u5 u6 u7 u8 u9 => by rw [gM a y (by omega) u2, fM2 a y (by omega) u3 u4 u5 u6 u7 (by omega) u8 u9]
  have gA1 : ∀ a y, a ≠ 5 → ¬ (11 ≤ a ∧ a ≤ 60) → ¬ (a = 3 ∧ y = 16) → A4 a y = A1 a y := fun a y u1 u2 u3 => by rw [gA a y u1 (by omega) u3, b6 a y (by omega)]
  have gM1 : ∀ a y, ¬ (787 ≤ a ∧ a ≤ 853) → ¬ (a = 732 ∧ y = 83) → M4 a y = M1 a y := fun a y u1 u2 => by rw [gM a y (by omega) u2, b7 a y (by omega)]
  have hCo4 : RCo A4 M4 L3 T C (t + 1) := RCo_w c3 (fun a y u1 u2 => tA4 a y (by omega)) (fun a y u1 u2 => tM4 a y (by omega)) (fun _ _ _ _ => rfl)
  refine ⟨A4, M4, L3, ec', tc', mk, fr, ?_, ?_, b4, ⟨?_, ?_, ?_, ?_, ?_, ?_, ?_⟩, ?_, hCo4, ?_, ?_, ?_, ?_, ?_, fun a y u => fM a y (by omega) (by omega) (by omega) (by omega) (by omega) (by omega) (by omega) (by omega) (by omega), fun a y u1 u2 u3 => gL a y (by omega) (by omega), fun a y u => fA a y (by omega) (by omega) (by omega) (by omega) (by omega) (by omega) (by omega) (by omega) (by omega)⟩
  · unfold DX1_passMicrosecond
    rw [k16, s1, mb2_s, show A1 3 16 = sI t by rw [s10 _ _ (by omega) (by omega) (by omega) (by omega) (by omega) (by omega) (by omega)]; exact k16, b1, mb2_s, show A2 3 16 = sI t by rw [fA2 _ _ (by omega) (by omega) (by omega) (by omega) (by omega) (by omega) (by omega)]; exact k16, c1, mb2_s, mlet_e, a16, sI_1, hA4]
  · unfold DX19_microsecond
    rw [s2]
    unfold fX19_microsecond_b56
    rw [b2, mb3_s, f1, c2, mb3_s, mlet_e, m83, sI_1, hM4]
  · refine TkB_g hTk (FrS_f s3 (fun a y u => gA1 a y (by omega) (by omega) (by omega)) (fun a y u => gM1 a y (by omega) (by omega))) (fun x hx => QdR_f (kQ x hx) (fun a y u => fA a y (by omega) (by omega) (by omega) (by omega) (by omega) (by omega) (by omega) (by omega) (by omega)) (fun a y u => fM a y (by omega) (by omega) (by omega) (by omega) (by omega) (by omega) (by omega) (by omega) (by omega)) (fun _ => rfl) (fun y => gL _ y (by omega) (by omega))) (WtR_f kW (fun a y u => fA a y (by omega) (by omega) (by omega) (by omega) (by omega) (by omega) (by omega) (by omega) (by omega)) (fun a y u => fM a y (by omega) (by omega) (by omega) (by omega) (by omega) (by omega) (by omega) (by omega) (by omega)) (fun y => gL _ y (by omega) (by omega))) (RTr_fr kT (fun a y u1 u2 => fA a y (by omega) (by omega) (by omega) (by omega) (by omega) (by omega) (by omega) (by omega) (by omega)) (fun a y u1 u2 u3 => fM a y (by omega) (by omega) (by omega) (by omega) (by omega) (by omega) (by omega) (by omega) (by omega))) (RCd_fr s7 (fun a y u1 u2 => gA1 a y (by omega) (by omega) (by omega)) (fun a y u => gM1 a y (by omega) (by omega))) (fun a y u => fA a y (by omega) (by omega) (by omega) (by omega) (by omega) (by omega) (by omega) (by omega) (by omega)) (fun a y u => fM a y (by omega) (by omega) (by omega) (by omega) (by omega) (by omega) (by omega) (by omega) (by omega)) (fun _ => rfl) (fun a y u => gL a y (by omega) (by omega)) (by rw [← hA4, mset_s]) (by rw [← hM4, mset_s]) (by omega)
  · exact TrB_f hTr (fun a y u => fA a y (by omega) (by omega) (by omega) (by omega) (by omega) (by omega) (by omega) (by omega) (by omega)) (fun a y u => fM a y (by omega) (by omega) (by omega) (by omega) (by omega) (by omega) (by omega) (by omega) (by omega)) (fun a y u1 u2 => gL a y (by omega) (by omega))
  · exact BusE_fr ⟨_, _, _, _, _, _, b3⟩ (fun a y u1 u2 => gA a y (by omega) (by omega) (by omega)) (fun a y u1 u2 u3 => gM a y (by omega) (by omega))
  · exact FrE_f b5 (fun a y u => gA a y (by omega) (by omega) (by omega)) (fun a y u1 u2 => gM a y (by omega) (by omega))
  · rw [fM _ _ (by omega) (by omega) (by omega) (by omega) (by omega) (by omega) (by omega) (by omega) (by omega)]; exact w8
  · rw [fA _ _ (by omega) (by omega) (by omega) (by omega) (by omega) (by omega) (by omega) (by omega) (by omega)]; exact w9
  · intro k hk
    rw [if_neg (by omega), fM _ _ (by omega) (by omega) (by omega) (by omega) (by omega) (by omega) (by omega) (by omega) (by omega)]
    exact h924 k hk
  · have hS1 : SlW A1 M1 C S F W X T (t + 1) d tu g si := by
      refine ⟨s4, s5, s6, w4, w5, fun c hc => ?_, fun w hw => ?_, ?_, ?_, w10, ?_, fun i hi => ?_, fun i hi => ?_⟩
      · rw [s10 _ _ (by omega) (by omega) (by omega) (by omega) (by omega) (by omega) (by omega), s11 _ _ (by omega) (by omega) (by omega) (by omega) (by omega) (by omega) (by omega) (by omega) (by omega)]
        exact w6 c hc
      · rw [s10 _ _ (by omega) (by omega) (by omega) (by omega) (by omega) (by omega) (by omega)]
        exact w7 w hw
      · rw [s11 _ _ (by omega) (by omega) (by omega) (by omega) (by omega) (by omega) (by omega) (by omega) (by omega)]
        exact w8
      · rw [s10 _ _ (by omega) (by omega) (by omega) (by omega) (by omega) (by omega) (by omega)]
        exact w9
      · rw [s11 _ _ (by omega) (by omega) (by omega) (by omega) (by omega) (by omega) (by omega) (by omega) (by omega)]
        exact w11
      · rw [s10 _ _ (by omega) (by omega) (by omega) (by omega) (by omega) (by omega) (by omega), s11 _ _ (by omega) (by omega) (by omega) (by omega) (by omega) (by omega) (by omega) (by omega) (by omega)]
        exact w12 i hi
      · rw [s10 _ _ (by omega) (by omega) (by omega) (by omega) (by omega) (by omega) (by omega), s11 _ _ (by omega) (by omega) (by omega) (by omega) (by omega) (by omega) (by omega) (by omega) (by omega)]
        exact w13 i hi
    exact SlW_f hS1 (fun a y u => gA1 a y (by omega) (by omega) (by omega)) (fun a y u => gM1 a y (by omega) (by omega))
  · refine ⟨hT12, kO.1, c4, by rw [tA4 _ _ (by omega)]; exact c5, by rw [gM _ _ (by omega) (by omega)]; exact h24, ?_, fun i hi => ⟨?_, ?_⟩⟩
    · obtain ⟨_, _, _, _, q, _⟩ := hCo4
      exact q.2.2.2.2.2.1
    · rw [fA _ _ (by omega) (by omega) (by omega) (by omega) (by omega) (by omega) (by omega) (by omega) (by omega), fM _ _ (by omega) (by omega) (by omega) (by omega) (by omega) (by omega) (by omega) (by omega) (by omega)]
      exact w12 i hi
    · obtain ⟨us, us', mi, dn, i1, i2, i3, i4, i5, i6, i7, _⟩ := c6 i hi
      refine ⟨us, us', mi, ?_, i6, ?_, i2, i3, i4, i7⟩
      · rw [fM _ _ (by omega) (by omega) (by omega) (by omega) (by omega) (by omega) (by omega) (by omega) (by omega), ← w13 i hi, ← fA2 _ _ (by omega) (by omega) (by omega) (by omega) (by omega) (by omega) (by omega)]
        exact i5
      · rw [c9 _ _ (by omega), f2 i hi, ← f3 805 _ (by omega)]
        exact i1
  · intro x hx
    exact CxR_f (hCx x hx) (by omega) (fun a y u1 u2 u3 => fA a y (by omega) (by omega) (by omega) (by omega) (by omega) (by omega) (by omega) (by omega) (by omega)) (fun a y u1 u2 u3 => fM a y (by omega) (by omega) (by omega) (by omega) (by omega) (by omega) (by omega) (by omega) (by omega)) (fM _ _ (by omega) (by omega) (by omega) (by omega) (by omega) (by omega) (by omega) (by omega) (by omega)) (fun a u1 u2 => by
      funext y
      exact gL a y (by omega) (by omega)) (by
      have q : L3 (964 + 53 * x + 21) = Lm (964 + 53 * x + 21) := by
        funext y
        exact gL _ y (by omega) (by omega)
      rw [q]
      obtain ⟨_, _, _, _, _, z⟩ := kQ x hx
      exact z)
  · intro i hi
    obtain ⟨us, us', mi, dn, i1, i2, i3, i4, i5, i6, i7, i8, i9, i10⟩ := c6 i hi
    rw [tA4 _ _ (by omega), i10, fM _ _ (by omega) (by omega) (by omega) (by omega) (by omega) (by omega) (by omega) (by omega) (by omega), ← h17 i hi, ← fA2 17 i (by omega) (by omega) (by omega) (by omega) (by omega) (by omega) (by omega), i8, sI_1]
    split <;> rfl
  · rw [gA1 _ _ (by omega) (by omega) (by omega), gM1 _ _ (by omega) (by omega)]
    exact s9
  · rw [fA _ _ (by omega) (by omega) (by omega) (by omega) (by omega) (by omega) (by omega) (by omega) (by omega), fM _ _ (by omega) (by omega) (by omega) (by omega) (by omega) (by omega) (by omega) (by omega) (by omega)]
    exact h4
