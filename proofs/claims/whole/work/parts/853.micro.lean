/-! A MICROSECOND, whole -/
theorem st_second {fu C S F W R X T t E : Nat} {d : Nat → Nat → Nat} {tu : Nat → Bool} {g : Nat → Nat → Nat} {own Sb bd : Nat → Nat} {si : Nat → Bool} {p : PB} {o : Nat → Nat → Nat} {e ec tc fl : Nat → Nat} {A M : mwM} {Lc Lm : mwL} (hfu : 5000 ≤ fu) (ht : t < 20000) (hZ : CAR A M Lc Lm C S F W R X T t E d tu g own Sb bd si p o e ec tc fl) : ∃ (A' M' : mwM) (Lc' Lm' : mwL) (E' : Nat) (bd' : Nat → Nat) (p' : PB) (o' : Nat → Nat → Nat) (e' ec' tc' : Nat → Nat), DX1_passMicrosecond fu A Lc = some (A', Lc') ∧ DX19_microsecond fu M Lm = some (M', Lm') ∧ CAR A' M' Lc' Lm' C S F W R X T (t + 1) E' d tu g own Sb bd' si p' o' e' ec' tc' fl ∧ kpM X M M' ∧ kpC X Lc Lc' ∧ kpL X Lm Lm' ∧ kpA A A' := by
  have hE := hZ.2.2.2.2.2.2.2.2.2.2.2.1
  have hbd := hZ.2.2.2.2.2.2.2.2.2.2.2.2
  have hp := hZ.2.2.1
  obtain ⟨A1, M1, L1, ec', tc', mk, fr, z1, z2, z3, hLk, hSl, hCo, hTs, hCx, h17, h0, h4, kM, kL, kA⟩ := st_m1 hfu ht hZ
  have hC6 : C ≤ 6 := hSl.2.2.2.2.2.2.2.2.2.1
  -- the nodes look
  obtain ⟨A2, Lc2, M2, L2, E2, p2, o2, e2, y1, y2, hLk2, y3, y4, y5, lA, lM, lC, lL⟩ := st_looks (fu := fu) hfu hC6 z3 (by omega) (fun c hc => by have := hbd c hc; omega) hLk
  obtain ⟨hTk2, hTr2, hBu2, hFr2, h19, h13, h924⟩ := hLk2
  obtain ⟨kS, kO, kR, kQ, kW, kT, kC, kK, kN, k1, k2, k16, k83, kt⟩ := id hTk2
  have hSl2 : SlW A2 M2 C S F W X T (t + 1) d tu g si := SlW_f hSl (fun a y u => lA a y (by omega) (by omega) (by omega) (by omega) (by omega) (by omega) (by omega) (by omega) (by omega) (by omega) (by omega)) (fun a y u => lM a y (by omega) (by omega) (by omega) (by omega) (by omega) (by omega) (by omega) (by omega) (by omega) (by omega) (by omega) (by omega) (by omega))
  have hCo2 : RCo A2 M2 L2 T C (t + 1) := RCo_w hCo (fun a y u1 u2 => lA a y (by omega) (by omega) (by omega) (by omega) (by omega) (by omega) (by omega) (by omega) (by omega) (by omega) (by omega)) (fun a y u1 u2 => lM a y (by omega) (by omega) (by omega) (by omega) (by omega) (by omega) (by omega) (by omega) (by omega) (by omega) (by omega) (by omega) (by omega)) (fun a y u1 u2 => lL a y (by omega) (by omega) (by omega) (by omega) (by omega))
  have hTs2 : TsR A2 M2 L2 T X fr := TsR_f hTs (fun a y u => lA a y (by omega) (by omega) (by omega) (by omega) (by omega) (by omega) (by omega) (by omega) (by omega) (by omega) (by omega)) (fun a y u => lM a y (by omega) (by omega) (by omega) (by omega) (by omega) (by omega) (by omega) (by omega) (by omega) (by omega) (by omega) (by omega) (by omega)) (fun a y u => lL a y (by omega) (by omega) (by omega) (by omega) (by omega))
  have hCx2 : ∀ x, x < X → CxR A2 M2 Lc2 L2 (t + 1) x := fun x hx => CxR_f (hCx x hx) (Nat.le_refl _) (fun a y u1 u2 u3 => lA a y (by omega) (by omega) (by omega) (by omega) (by omega) (by omega) (by omega) (by omega) (by omega) (by omega) (by omega)) (fun a y u1 u2 u3 => lM a y (by omega) (by omega) (by omega) (by omega) (by omega) (by omega) (by omega) (by omega) (by omega) (by omega) (by omega) (by omega) (by omega)) (lM _ _ (by omega) (by omega) (by omega) (by omega) (by omega) (by omega) (by omega) (by omega) (by omega) (by omega) (by omega) (by omega) (by omega)) (fun a u1 u2 => by
    funext y
    exact lL a y (by omega) (by omega) (by omega) (by omega) (by omega)) (by
    obtain ⟨_, _, _, _, _, z⟩ := kQ x hx
    exact z)
  -- the tasks
  obtain ⟨A3, Lc3, M3, L3, t1, t2, t3, t4, uA, uM, uC, uL⟩ := st_tasks (fu := fu) (t := t + 1) (X := X) (fr := fr) (by omega) (by omega) T 0 fu fu A2 M2 Lc2 L2 (by omega) (by have := hTs.1; omega) (by have := hTs.1; omega) hTs2 k16 k83 (fun x hx => ⟨hCx2 x hx, kQ x hx⟩)
  have hSl3 : SlW A3 M3 C S F W X T (t + 1) d tu g si := SlW_f hSl2 (fun a y u => uA a y (by omega)) (fun a y u => uM a y (by omega) (by omega) (by omega) (by omega))
  have hCo3 : RCo A3 M3 L3 T C (t + 1) := RCo_w hCo2 (fun a y u1 u2 => uA a y (by omega)) (fun a y u1 u2 => uM a y (by omega) (by omega) (by omega) (by omega)) (fun a y u1 u2 => uL a y (by omega))
  have hW3 : WtR A3 M3 L3 W S (g 4) (g 5) := WtR_f kW (fun a y u => uA a y (by omega)) (fun a y u => uM a y (by omega) (by omega) (by omega) (by omega)) (fun y => uL _ y (by omega))
  have hT3 : RTr A3 M3 W E2 := RTr_fr kT (fun a y u1 u2 => uA a y (by omega)) (fun a y u1 u2 u3 => uM a y (by omega) (by omega) (by omega) (by omega))
  have hTk3 : TkB A3 M3 Lc3 L3 S F W R X (t + 1) E2 d tu g own Sb (fun x => bd x + 64) := TkB_g hTk2 (FrS_f kS (fun a y u => uA a y (by omega)) (fun a y u => uM a y (by omega) (by omega) (by omega) (by omega))) (fun x hx => (t3 x hx).2) hW3 hT3 (RCd_fr kC (fun a y u1 u2 => uA a y (by omega)) (fun a y u => uM a y (by omega) (by omega) (by omega) (by omega))) (fun a y u => uA a y (by omega)) (fun a y u => uM a y (by omega) (by omega) (by omega) (by omega)) (fun y => uC _ y (by omega)) (fun a y u => uL a y (by omega)) (by rw [uA _ _ (by omega)]; exact k16) (by rw [uM _ _ (by omega) (by omega) (by omega) (by omega)]; exact k83) (by omega)
  have hTr3 : TrB A3 M3 L3 C Sb p2 o2 e2 := TrB_f hTr2 (fun a y u => uA a y (by omega)) (fun a y u => uM a y (by omega) (by omega) (by omega) (by omega)) (fun a y u1 u2 => uL a y (by omega))
  have hBu3 : BusE A3 M3 (C + 1) (t + 1) ec' tc' fl := BusE_fr hBu2 (fun a y u1 u2 => uA a y (by omega)) (fun a y u1 u2 u3 => uM a y (by omega) (by omega) (by omega) (by omega))
  -- silence
  obtain ⟨A4, M4, L4, E4, q1, q2, q3, q4, q5, q6, vA, vM, vL⟩ := st_silence (fu := fu) (t := t + 1) (Lc := Lc3) (pe := fun w => d 1 (g 4 w)) (by omega) hW3 hTk3.1.2.2.1 hT3 (by omega) (by omega) (by rw [uM _ _ (by omega) (by omega) (by omega) (by omega)]; exact k83) (fun w hw => by
    obtain ⟨_, _, _, _, _, _, r7, _⟩ := hSl3
    obtain ⟨_, _, _, _, _, _, _, rS, _⟩ := hTk3.1
    obtain ⟨_, _, rw1, rw2⟩ := hW3
    obtain ⟨_, _, ws1, _⟩ := rw2 w hw
    obtain ⟨_, _, _, _, _, _, _, _, _, _, _, _, _, _, _, _, _, _, p1, p2, p3⟩ := rS (g 4 w) ws1
    exact ⟨r7 w hw, p1, p3⟩)
  have hSl4 : SlW A4 M4 C S F W X T (t + 1) d tu g si := SlW_f hSl3 (fun a y u => vA a y (by omega) (by omega)) (fun a y u => vM a y (by omega))
  have hCo4 : RCo A4 M4 L4 T C (t + 1) := RCo_w hCo3 (fun a y u1 u2 => vA a y (by omega) (by omega)) (fun a y u1 u2 => vM a y (by omega)) (fun a y u1 u2 => vL a y (by omega))
  obtain ⟨jS, jO, jR, jQ, jW, jT, jC, jK, jN, j1, j2, j16, j83, jt⟩ := id hTk3
  have hTk4 : TkB A4 M4 Lc3 L4 S F W R X (t + 1) E4 d tu g own Sb (fun x => bd x + 64) := TkB_g hTk3 (FrS_f jS (fun a y u => vA a y (by omega) (by omega)) (fun a y u => vM a y (by omega))) (fun x hx => QdR_f (jQ x hx) (fun a y u => vA a y (by omega) (by omega)) (fun a y u => vM a y (by omega)) (fun _ => rfl) (fun y => vL _ y (by omega))) q3 q4 (RCd_fr jC (fun a y u1 u2 => vA a y (by omega) (by omega)) (fun a y u => vM a y (by omega))) (fun a y u => vA a y (by omega) (by omega)) (fun a y u => vM a y (by omega)) (fun _ => rfl) (fun a y u => vL a y (by omega)) (by rw [vA _ _ (by omega) (by omega)]; exact j16) (by rw [vM _ _ (by omega)]; exact j83) (by omega)
  have hTr4 : TrB A4 M4 L4 C Sb p2 o2 e2 := TrB_f hTr3 (fun a y u => vA a y (by omega) (by omega)) (fun a y u => vM a y (by omega)) (fun a y u1 u2 => vL a y (by omega))
  have hBu4 : BusE A4 M4 (C + 1) (t + 1) ec' tc' fl := BusE_fr hBu3 (fun a y u1 u2 => vA a y (by omega) (by omega)) (fun a y u1 u2 u3 => vM a y (by omega))
  obtain ⟨iS, iO, iR, iQ, iW, iT, iC, iK, iN, i1, i2, i16, i83, it⟩ := id hTk4
  -- the transfer
  obtain ⟨A5, M5, L5, p5, e5, r1, r2, hTr5, r3, hBu5, r4, r5, xA, xM, xL⟩ := st_pass (fu := fu) (Lc := Lc3) (by omega) hTr4 hBu4 i16 i83 (by rw [y5, hp]) (by omega) (by rw [vA _ _ (by omega) (by omega), uA _ _ (by omega)]; exact h13) (by rw [vM _ _ (by omega), uM _ _ (by omega) (by omega) (by omega) (by omega)]; exact h19) hC6 (by rw [vA _ _ (by omega) (by omega), uA _ _ (by omega), vM _ _ (by omega), uM _ _ (by omega) (by omega) (by omega) (by omega), lA _ _ (by omega) (by omega) (by omega) (by omega) (by omega) (by omega) (by omega) (by omega) (by omega) (by omega) (by omega), lM _ _ (by omega) (by omega) (by omega) (by omega) (by omega) (by omega) (by omega) (by omega) (by omega) (by omega) (by omega) (by omega) (by omega)]; exact h0) (by rw [vA _ _ (by omega) (by omega), uA _ _ (by omega), vM _ _ (by omega), uM _ _ (by omega) (by omega) (by omega) (by omega), lA _ _ (by omega) (by omega) (by omega) (by omega) (by omega) (by omega) (by omega) (by omega) (by omega) (by omega) (by omega), lM _ _ (by omega) (by omega) (by omega) (by omega) (by omega) (by omega) (by omega) (by omega) (by omega) (by omega) (by omega) (by omega) (by omega)]; exact h4)
  have hSl5 : SlW A5 M5 C S F W X T (t + 1) d tu g si := SlW_f hSl4 (fun a y u => xA a y (by omega) (by omega) (by omega) (by omega)) (fun a y u => xM a y (by omega) (by omega) (by omega) (by omega) (by omega) (by omega))
  have hCo5 : RCo A5 M5 L5 T C (t + 1) := RCo_w hCo4 (fun a y u1 u2 => xA a y (by omega) (by omega) (by omega) (by omega)) (fun a y u1 u2 => xM a y (by omega) (by omega) (by omega) (by omega) (by omega) (by omega)) (fun a y u1 u2 => xL a y (by omega))
  have hTk5 : TkB A5 M5 Lc3 L5 S F W R X (t + 1) E4 d tu g own Sb (fun x => bd x + 64) := TkB_g hTk4 (FrS_f iS (fun a y u => xA a y (by omega) (by omega) (by omega) (by omega)) (fun a y u => xM a y (by omega) (by omega) (by omega) (by omega) (by omega) (by omega))) (fun x hx => QdR_f (iQ x hx) (fun a y u => xA a y (by omega) (by omega) (by omega) (by omega)) (fun a y u => xM a y (by omega) (by omega) (by omega) (by omega) (by omega) (by omega)) (fun _ => rfl) (fun y => xL _ y (by omega))) (WtR_f iW (fun a y u => xA a y (by omega) (by omega) (by omega) (by omega)) (fun a y u => xM a y (by omega) (by omega) (by omega) (by omega) (by omega) (by omega)) (fun y => xL _ y (by omega))) (RTr_fr iT (fun a y u1 u2 => xA a y (by omega) (by omega) (by omega) (by omega)) (fun a y u1 u2 u3 => xM a y (by omega) (by omega) (by omega) (by omega) (by omega) (by omega))) (RCd_fr iC (fun a y u1 u2 => xA a y (by omega) (by omega) (by omega) (by omega)) (fun a y u => xM a y (by omega) (by omega) (by omega) (by omega) (by omega) (by omega))) (fun a y u => xA a y (by omega) (by omega) (by omega) (by omega)) (fun a y u => xM a y (by omega) (by omega) (by omega) (by omega) (by omega) (by omega)) (fun _ => rfl) (fun a y u => xL a y (by omega)) (by rw [xA _ _ (by omega) (by omega) (by omega) (by omega)]; exact i16) (by rw [xM _ _ (by omega) (by omega) (by omega) (by omega) (by omega) (by omega)]; exact i83) (by omega)
  refine ⟨A5, M5, Lc3, L5, E4, fun x => bd x + 64, p5, o2, e5, ec', tc', ?_, ?_, ⟨hTk5, hTr5, r3, hBu5, hSl5, hCo5, fun x hx => ?_, fun i hi => ?_, fun k hk => ?_, r4, r5, by omega, fun c hc => by have := hbd c hc; dsimp only; omega⟩, fun a y u => by rw [xM a y (by omega) (by omega) (by omega) (by omega) (by omega) (by omega), vM a y (by omega), uM a y (by omega) (by omega) (by omega) (by omega), lM a y (by omega) (by omega) (by omega) (by omega) (by omega) (by omega) (by omega) (by omega) (by omega) (by omega) (by omega) (by omega) (by omega), kM a y u], fun a y u1 u2 u3 => by rw [uC a y (by omega), lC a y (by omega) (by omega)], fun a y u1 u2 u3 => by rw [xL a y (by omega), vL a y (by omega), uL a y (by omega), lL a y (by omega) (by omega) (by omega) (by omega) (by omega), kL a y u1 u2 u3], fun a y u => by rw [xA a y (by omega) (by omega) (by omega) (by omega), vA a y (by omega) (by omega), uA a y (by omega), lA a y (by omega) (by omega) (by omega) (by omega) (by omega) (by omega) (by omega) (by omega) (by omega) (by omega) (by omega), kA a y u]⟩
  · rw [z1, y1]
    unfold fX1_passMicrosecond_b54
    rw [show (0 : Int32) = sI 0 from rfl, t1]
    unfold fX1_passMicrosecond_b122
    rw [show A3 3 16 = sI (t + 1) from j16, q1, mb2_s, r1, mb2_s]
  · rw [z2, y2]
    rw [show fX19_microsecond_h139 fu fu (0, M2, L2) = fX19_microsecond_h139 fu fu (sI 0, M2, L2) from rfl, t2, q2, r2, mb2_s]
  · refine CxR_f (t3 x hx).1 (Nat.le_refl _) (fun a y u1 u2 u3 => by rw [xA a y (by omega) (by omega) (by omega) (by omega), vA a y (by omega) (by omega)]) (fun a y u1 u2 u3 => by rw [xM a y (by omega) (by omega) (by omega) (by omega) (by omega) (by omega), vM a y (by omega)]) (by rw [xM _ _ (by omega) (by omega) (by omega) (by omega) (by omega) (by omega), vM _ _ (by omega)]) (fun a u1 u2 => by
      funext y
      rw [xL a y (by omega), vL a y (by omega)]) ?_
    obtain ⟨_, _, _, jq, _⟩ := hTk5
    obtain ⟨_, _, _, _, _, z⟩ := jq x hx
    exact z
  · have q := t4 i hi
    have q0 : (if 0 ≤ i ∧ fr.testBit i = true then M2 748 i + 1 else M2 748 i) = (if fr.testBit i = true then M2 748 i + 1 else M2 748 i) := by
      cases fr.testBit i
      · rfl
      · rw [if_pos ⟨by omega, rfl⟩, if_pos rfl]
    rw [q0] at q
    rw [xA _ _ (by omega) (by omega) (by omega) (by omega), vA _ _ (by omega) (by omega), uA _ _ (by omega), lA _ _ (by omega) (by omega) (by omega) (by omega) (by omega) (by omega) (by omega) (by omega) (by omega) (by omega) (by omega), h17 i hi, xM _ _ (by omega) (by omega) (by omega) (by omega) (by omega) (by omega), vM _ _ (by omega), q, lM _ _ (by omega) (by omega) (by omega) (by omega) (by omega) (by omega) (by omega) (by omega) (by omega) (by omega) (by omega) (by omega) (by omega)]
  · rw [xM _ _ (by omega) (by omega) (by omega) (by omega) (by omega) (by omega), vM _ _ (by omega), uM _ _ (by omega) (by omega) (by omega) (by omega)]
    have := h924 k hk
    rw [if_pos (by omega)] at this
    exact this
