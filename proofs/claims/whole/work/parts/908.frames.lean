/-! CALLS: what may change between calls -/
theorem TkB_e {A A' M M' : mwM} {Lc Lc' Lm Lm' : mwL} {S F W R X t E : Nat} {d : Nat → Nat → Nat} {tu : Nat → Bool} {g : Nat → Nat → Nat} {own Sb bd : Nat → Nat} (h : TkB A M Lc Lm S F W R X t E d tu g own Sb bd) (hT : RTr A' M' W E) (hA : ∀ a y, (a = 3 ∧ (y = 15 ∨ y = 16)) ∨ (61 ≤ a ∧ a ≤ 136) ∨ (a = 139 ∧ y = 2) ∨ (140 ≤ a ∧ a ≤ 144) ∨ (286 ≤ a ∧ a ≤ 291) ∨ (a = 292 ∧ (y = 1 ∨ y = 2)) ∨ (293 ≤ a ∧ a ≤ 724) → A' a y = A a y) (hM : ∀ a y, (a = 732 ∧ (y = 33 ∨ y = 45 ∨ y = 55 ∨ y = 62 ∨ y = 67 ∨ y = 83)) ∨ (734 ≤ a ∧ a ≤ 786) ∨ (a = 854 ∧ (y = 1 ∨ y = 6)) ∨ a = 855 ∨ a = 868 ∨ (a = 939 ∧ (y = 1 ∨ y = 2)) ∨ (941 ≤ a ∧ a < 1577 ∧ (a - 941) % 53 ≤ 14 ∧ ¬ ((a - 941) % 53 = 0 ∧ y = 0)) → M' a y = M a y) (hC : ∀ a y, a < 732 → Lc' a y = Lc a y) (hL : ∀ a y, 732 ≤ a → a < 1577 → Lm' a y = Lm a y) : TkB A' M' Lc' Lm' S F W R X t E d tu g own Sb bd := by
  obtain ⟨kS, kO, kR, kQ, kW, kT, kC, kK, kN, k1, k2, k16, k83, kt⟩ := h
  have hX := kO.1
  refine ⟨FrS_f kS (fun a y u => hA a y (by omega)) (fun a y u => hM a y (by omega)), ChO_f kO (fun x hx => hA _ _ (by omega)) (fun a y u => hM a y (by omega)), RdR_f kR (fun a y u => hA a y (by omega)) (fun a y u => hM a y (by omega)) (fun y => hC _ _ (by omega)) (fun y => hL _ y (by omega) (by omega)), fun x hx => QdR_f (kQ x hx) (fun a y u => hA a y (by omega)) (fun a y u => hM a y (by omega)) (fun y => hC _ _ (by omega)) (fun y => hL _ _ (by omega) (by omega)), WtR_f kW (fun a y u => hA a y (by omega)) (fun a y u => hM a y (by omega)) (fun y => hL _ _ (by omega) (by omega)), hT, RCd_fr kC (fun a y u1 u2 => hA a y (by omega)) (fun a y u => hM a y (by omega)), fun f hf hk => KnC_f (kK f hf hk) ?_ (fun a y u1 u2 => hA a y (by omega)), fun f hf c hc => ?_, by rw [hA _ _ (by omega), hM _ _ (by omega)]; exact k1, by rw [hA _ _ (by omega), hM _ _ (by omega)]; exact k2, by rw [hA _ _ (by omega)]; exact k16, by rw [hM _ _ (by omega)]; exact k83, kt⟩
  · obtain ⟨_, _, _, _, _, _, fF, _⟩ := kS
    have := (fF f hf).1
    unfold FrT at this
    omega
  · obtain ⟨cn, n1, n2, n3⟩ := kN f hf c hc
    exact ⟨cn, n1, by rw [hA _ _ (by omega)]; exact n2, by rw [hL _ _ (by omega) (by omega)]; exact n3⟩
theorem CAR_x {A A' M M' : mwM} {Lc Lc' Lm Lm' : mwL} {C S F W R X T t E : Nat} {d : Nat → Nat → Nat} {tu : Nat → Bool} {g : Nat → Nat → Nat} {own Sb bd : Nat → Nat} {si si' : Nat → Bool} {p p' : PB} {o o' : Nat → Nat → Nat} {e e' ec tc fl fl' : Nat → Nat} (h : CAR A M Lc Lm C S F W R X T t E d tu g own Sb bd si p o e ec tc fl) (hTr : TrB A' M' Lm' C Sb p' o' e') (hp : p'.1 0 3 = t) (hBu : BusE A' M' (C + 1) t ec tc fl') (hT : RTr A' M' W E) (hsi : ∀ c, c < 6 → A' 284 c = bI (si' c) ∧ M' 923 c = bI (si' c)) (hA : ∀ a y, 3 ≤ a → a < 731 → ¬ (a = 3 ∧ (y = 17 ∨ y = 18)) → ¬ (20 ≤ a ∧ a ≤ 60) → ¬ (a = 139 ∧ y ≠ 2) → ¬ (145 ≤ a ∧ a ≤ 284 ∧ a ≠ 283) → ¬ (a = 292 ∧ y = 3) → A' a y = A a y) (hM : ∀ a y, 732 ≤ a → a < 1577 → ¬ ((a = 732 ∧ (y ≤ 12 ∨ (88 ≤ y ∧ y ≤ 110))) ∨ a = 733) → ¬ (821 ≤ a ∧ a ≤ 853) → ¬ (869 ≤ a ∧ a ≤ 923) → ¬ (927 ≤ a ∧ a ≤ 938) → a ≠ 940 → ¬ (a = 939 ∧ y = 3) → ¬ (964 ≤ a ∧ (a - 964) % 53 = 0 ∧ y = 0) → M' a y = M a y) (hC : ∀ a, a < 732 → Lc' a = Lc a) (hL : ∀ a, 732 ≤ a → a < 1577 → Lm' a = Lm a) : CAR A' M' Lc' Lm' C S F W R X T t E d tu g own Sb bd si' p' o' e' ec tc fl' := by
  obtain ⟨hTk, _, _, _, hSl, hCo, hCx, h17, h924, h0, h4, hE, hbd⟩ := h
  have hX := hTk.2.1.1
  have hQ := hTk.2.2.2.1
  have hC' : ∀ a y, a < 732 → Lc' a y = Lc a y := fun a y u => by rw [hC a u]
  have hL' : ∀ a y, 732 ≤ a → a < 1577 → Lm' a y = Lm a y := fun a y u1 u2 => by rw [hL a u1 u2]
  have cA : ∀ a y, (a = 3 ∧ ¬ (y = 17 ∨ y = 18)) ∨ (4 ≤ a ∧ a ≤ 19) ∨ (61 ≤ a ∧ a ≤ 138) ∨ (a = 139 ∧ y = 2) ∨ (140 ≤ a ∧ a ≤ 144) ∨ a = 283 ∨ (285 ≤ a ∧ a ≤ 291) ∨ (a = 292 ∧ y ≠ 3) ∨ (293 ≤ a ∧ a ≤ 724) → A' a y = A a y := fun a y u => hA a y (by omega) (by omega) (by omega) (by omega) (by omega) (by omega) (by omega)
  have cM : ∀ a y, (a = 732 ∧ 13 ≤ y ∧ y ≤ 87) ∨ (734 ≤ a ∧ a ≤ 820) ∨ (854 ≤ a ∧ a ≤ 868) ∨ (924 ≤ a ∧ a ≤ 926) ∨ (a = 939 ∧ y ≠ 3) ∨ (941 ≤ a ∧ a < 1577 ∧ ¬ (964 ≤ a ∧ (a - 964) % 53 = 0 ∧ y = 0)) → M' a y = M a y := fun a y u => hM a y (by omega) (by omega) (by omega) (by omega) (by omega) (by omega) (by omega) (by omega) (by omega)
  refine ⟨TkB_e hTk hT (fun a y u => cA a y (by omega)) (fun a y u => cM a y (by omega)) hC' hL', hTr, hp, hBu, ?_, RCo_w hCo (fun a y u1 u2 => cA a y (by omega)) (fun a y u1 u2 => cM a y (by omega)) (fun a y u1 u2 => hL' a y (by omega) (by omega)), fun x hx => CxR_f (hCx x hx) (Nat.le_refl _) (fun a y u1 u2 u3 => cA a y (by omega)) (fun a y u1 u2 u3 => cM a y (by omega)) (cM _ _ (by omega)) (fun a u1 u2 => hL a (by omega) (by omega)) (by
    obtain ⟨_, _, _, _, _, q⟩ := hQ x hx
    rw [hC _ (by omega), hL _ (by omega) (by omega)]
    exact q), fun i hi => by rw [cA _ _ (by omega), cM _ _ (by omega)]; exact h17 i hi, fun k hk => by rw [cM _ _ (by omega)]; exact h924 k hk, by rw [cA _ _ (by omega), cM _ _ (by omega)]; exact h0, by rw [cA _ _ (by omega), cM _ _ (by omega)]; exact h4, hE, hbd⟩
  obtain ⟨h1, h2, ⟨sm, h3, h3'⟩, h4, h5, h6, h7, h8, h9, h10, h11, h12, h13⟩ := hSl
  have hFS := hTk.1
  refine ⟨fun f hf => ?_, fun f hf => ?_, ⟨sm, by rw [cA _ _ (by omega)]; exact h3, h3'⟩, h4, h5, hsi, fun w hw => by rw [cA _ _ (by omega)]; exact h7 w hw, by rw [cM _ _ (by omega)]; exact h8, by rw [cA _ _ (by omega)]; exact h9, h10, by rw [cM _ _ (by omega)]; exact h11, fun i hi => ?_, fun i hi => by rw [cA _ _ (by omega), cM _ _ (by omega)]; exact h13 i hi⟩
  · have hk : kFr d f = 941 + 53 * pkn (d 10 f) (d 12 f) := rfl
    have hpk : pkn (d 10 f) (d 12 f) < 12 := by
      have := (hFS.2.2.2.2.2.2.1 f hf).1
      have h6 := h4 f hf
      unfold FrT at this
      unfold pkn
      split <;> omega
    refine ⟨fun s hs hf' q hq => ?_, fun y hy hn => ?_⟩
    · obtain ⟨od, o1, o2⟩ := (h1 f hf).1 s hs hf' q hq
      exact ⟨od, by rw [cM _ _ (by omega)]; exact o1, o2⟩
    · rw [cM _ _ (by omega)]
      exact (h1 f hf).2 y hy hn
  · obtain ⟨⟨k, k1, k2, k3⟩, k4⟩ := h2 f hf
    exact ⟨⟨k, by rw [cA _ _ (by omega)]; exact k1, by rw [cM _ _ (by omega)]; exact k2, k3⟩, by rw [cA _ _ (by omega)]; exact k4⟩
  · rw [cA _ _ (by omega), cM _ _ (by omega)]
    exact h12 i hi
theorem CAR_e {A A' M M' : mwM} {Lc Lc' Lm Lm' : mwL} {C S F W R X T t E : Nat} {d : Nat → Nat → Nat} {tu : Nat → Bool} {g : Nat → Nat → Nat} {own Sb bd : Nat → Nat} {si : Nat → Bool} {p : PB} {o : Nat → Nat → Nat} {e ec tc fl : Nat → Nat} (h : CAR A M Lc Lm C S F W R X T t E d tu g own Sb bd si p o e ec tc fl) (hA : ∀ a y, 3 ≤ a → a < 731 → A' a y = A a y) (hM : ∀ a y, 732 ≤ a → a < 1577 → ¬ ((a = 732 ∧ (y ≤ 12 ∨ y = 102 ∨ y = 110)) ∨ a = 733) → ¬ (a = 821 ∧ y = 0) → ¬ (a = 902 ∧ y = 0) → a ≠ 933 → a ≠ 940 → ¬ (964 ≤ a ∧ (a - 964) % 53 = 0 ∧ y = 0) → M' a y = M a y) (hC : ∀ a, a < 732 → Lc' a = Lc a) (hL : ∀ a, 732 ≤ a → a < 1577 → Lm' a = Lm a) : CAR A' M' Lc' Lm' C S F W R X T t E d tu g own Sb bd si p o e ec tc fl := by
  obtain ⟨hTk, hTr, hp, hBu, hSl, _⟩ := id h
  exact CAR_x h (TrB_f hTr (fun a y u => hA a y (by omega) (by omega)) (fun a y u => hM a y (by omega) (by omega) (by omega) (by omega) (by omega) (by omega) (by omega) (by omega)) (fun a y u1 u2 => by rw [hL a (by omega) (by omega)])) hp (BusE_fr hBu (fun a y u1 u2 => hA a y (by omega) (by omega)) (fun a y u1 u2 u3 => hM a y (by omega) (by omega) (by omega) (by omega) (by omega) (by omega) (by omega) (by omega))) (RTr_fr hTk.2.2.2.2.2.1 (fun a y u1 u2 => hA a y (by omega) (by omega)) (fun a y u1 u2 u3 => hM a y (by omega) (by omega) (by omega) (by omega) (by omega) (by omega) (by omega) (by omega))) (fun c hc => by rw [hA _ _ (by omega) (by omega), hM _ _ (by omega) (by omega) (by omega) (by omega) (by omega) (by omega) (by omega) (by omega)]; exact hSl.2.2.2.2.2.1 c hc) (fun a y u1 u2 _ _ _ _ _ => hA a y u1 u2) (fun a y u1 u2 u3 u4 u5 u6 u7 u8 u9 => hM a y u1 u2 (by omega) (by omega) (by omega) (by omega) (by omega) (by omega)) hC hL
theorem HS_e {A A' M M' : mwM} {Lc Lc' Lm Lm' : mwL} {Sb : Nat → Nat} (h : HS A M Lc Lm Sb) (hA : ∀ a y, a < 731 → ¬ (a = 0 ∧ y = 3) → A' a y = A a y) (hM : ∀ a y, 732 ≤ a → a < 1577 → ¬ (a = 732 ∧ (y = 0 ∨ y = 102 ∨ y = 110)) → ¬ (a = 821 ∧ y = 0) → ¬ (a = 902 ∧ y = 0) → a ≠ 933 → a ≠ 940 → ¬ (964 ≤ a ∧ (a - 964) % 53 = 0 ∧ y = 0) → M' a y = M a y) (hC : ∀ a, a < 732 → Lc' a = Lc a) (hL : ∀ a, 732 ≤ a → a < 1577 → Lm' a = Lm a) : HS A' M' Lc' Lm' Sb := by
  obtain ⟨⟨k, k1, k2, k3⟩, ⟨n, tx, t1, t2⟩, ⟨i1, i2, i3, i4, i5⟩, h5, hc⟩ := h
  have cM : ∀ a y, (a = 732 ∧ 1 ≤ y ∧ y ≤ 101) ∨ (733 ≤ a ∧ a ≤ 820) ∨ (854 ≤ a ∧ a ≤ 901) ∨ (941 ≤ a ∧ a < 1577 ∧ ¬ (964 ≤ a ∧ (a - 964) % 53 = 0 ∧ y = 0)) → M' a y = M a y := fun a y u => hM a y (by omega) (by omega) (by omega) (by omega) (by omega) (by omega) (by omega) (by omega)
  have cA : ∀ a y, (a = 0 ∧ y ≠ 3) ∨ (1 ≤ a ∧ a ≤ 730) → A' a y = A a y := fun a y u => hA a y (by omega) (by omega)
  refine ⟨⟨k, k1, by rw [cA _ _ (by omega)]; exact k2, by rw [cM _ _ (by omega)]; exact k3⟩, ⟨n, tx, TxC_f t1 (fun x y u => cA x y (by omega)), TxM_f t2 (fun x y u => cM x y (by omega))⟩, ⟨RCd_fr i1 (fun a y u1 u2 => cA a y (by omega)) (fun a y u => cM a y (by omega)), OcA_f i2 (fun a y u1 u2 => cA a y (by omega)), by rw [cM _ _ (by omega)]; exact i3, fun x hx => ?_, fun a ha y hy => by rw [cM _ _ (by omega)]; exact i5 a ha y hy⟩, by rw [cA _ _ (by omega), cM _ _ (by omega)]; exact h5, ?_⟩
  · obtain ⟨b1, b2, b3, b4⟩ := i4 x hx
    rw [cM _ _ (by omega), cM _ _ (by omega), cM _ _ (by omega), hC _ (by omega), hL _ (by omega) (by omega)]
    exact ⟨b1, b2, b3, b4⟩
  rcases hc with ⟨c1, c2⟩ | ⟨c1, c2, C, S, F, W, R, X, T, t, E, d, tu, g, own, bd, si, p, o, e, ec, tc, fl, c3, c4, c5⟩
  · exact Or.inl ⟨by rw [cA _ _ (by omega)]; exact c1, by rw [cM _ _ (by omega)]; exact c2⟩
  · exact Or.inr ⟨by rw [cA _ _ (by omega)]; exact c1, by rw [cM _ _ (by omega)]; exact c2, C, S, F, W, R, X, T, t, E, d, tu, g, own, bd, si, p, o, e, ec, tc, fl, CAR_e c3 (fun a y u1 u2 => cA a y (by omega)) (fun a y u1 u2 u3 u4 u5 u6 u7 u8 => hM a y u1 u2 (by omega) u4 u5 u6 u7 u8) hC hL, by rw [cA _ _ (by omega)]; exact c4, c5⟩
