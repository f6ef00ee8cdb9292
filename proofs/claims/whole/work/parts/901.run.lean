/-! RUN -/
theorem CAR_g {A A' M M' : mwM} {Lc Lm : mwL} {C S F W R X T t E : Nat} {d : Nat → Nat → Nat} {tu : Nat → Bool} {g : Nat → Nat → Nat} {own Sb bd : Nat → Nat} {si : Nat → Bool} {p : PB} {o : Nat → Nat → Nat} {e ec tc fl : Nat → Nat} (h : CAR A M Lc Lm C S F W R X T t E d tu g own Sb bd si p o e ec tc fl) (hA : ∀ a y, 3 ≤ a → A' a y = A a y) (hM : ∀ a y, ¬ (a = 732 ∧ y ≤ 12) → ¬ (a = 821 ∧ y = 0) → M' a y = M a y) : CAR A' M' Lc Lm C S F W R X T t E d tu g own Sb bd si p o e ec tc fl := by
  obtain ⟨hTk, hTr, hp, hBu, hSl, hCo, hCx, h17, h924, h0, h4, hE, hbd⟩ := h
  obtain ⟨kS, kO, kR, kQ, kW, kT, kC, kK, kN, k1, k2, k16, k83, kt⟩ := id hTk
  refine ⟨TkB_g hTk (FrS_f kS (fun a y u => hA a y (by omega)) (fun a y u => hM a y (by omega) (by omega))) (fun x hx => QdR_f (kQ x hx) (fun a y u => hA a y (by omega)) (fun a y u => hM a y (by omega) (by omega)) (fun _ => rfl) (fun _ => rfl)) (WtR_f kW (fun a y u => hA a y (by omega)) (fun a y u => hM a y (by omega) (by omega)) (fun _ => rfl)) (RTr_fr kT (fun a y u1 u2 => hA a y (by omega)) (fun a y u1 u2 _ => hM a y (by omega) (by omega))) (RCd_fr kC (fun a y u1 u2 => hA a y (by omega)) (fun a y u => hM a y (by omega) (by omega))) (fun a y u => hA a y (by omega)) (fun a y u => hM a y (by omega) (by omega)) (fun _ => rfl) (fun _ _ _ => rfl) (by rw [hA _ _ (by omega)]; exact k16) (by rw [hM _ _ (by omega) (by omega)]; exact k83) kt, TrB_f hTr (fun a y u => hA a y (by omega)) (fun a y u => hM a y (by omega) (by omega)) (fun _ _ _ _ => rfl), hp, BusE_fr hBu (fun a y u1 u2 => hA a y (by omega)) (fun a y u1 u2 _ => hM a y (by omega) (by omega)), SlW_f hSl (fun a y u => hA a y (by omega)) (fun a y u => hM a y (by omega) (by omega)), RCo_w hCo (fun a y u1 u2 => hA a y (by omega)) (fun a y u1 u2 => hM a y (by omega) (by omega)) (fun _ _ _ _ => rfl), fun x hx => CxR_f (hCx x hx) (Nat.le_refl _) (fun a y u1 u2 u3 => hA a y (by omega)) (fun a y u1 u2 u3 => hM a y (by omega) (by omega)) (hM _ _ (by omega) (by omega)) (fun _ _ _ => rfl) (by
    obtain ⟨_, _, _, _, _, q⟩ := kQ x hx
    exact q), fun i hi => by rw [hA _ _ (by omega), hM _ _ (by omega) (by omega)]; exact h17 i hi, fun k hk => by rw [hM _ _ (by omega) (by omega)]; exact h924 k hk, by rw [hA _ _ (by omega), hM _ _ (by omega) (by omega)]; exact h0, by rw [hA _ _ (by omega), hM _ _ (by omega) (by omega)]; exact h4, hE, hbd⟩
/-- between calls, with a car that has run t microseconds -/
def HC (A M : mwM) (Lc Lm : mwL) (Sb : Nat → Nat) (t : Nat) : Prop := (∃ k, k ≤ 16 ∧ A 0 4 = sI k ∧ M 732 3 = sI k) ∧ (∃ n tx, TxC A n tx ∧ TxM M n tx) ∧ (PrB M Lc Lm ∧ ∀ q, q < 12 → ∀ y, y ≤ 40 → M (941 + 53 * q + 8) y = 0) ∧ A 1 13 = M 732 5 ∧ (A 0 5 = 1 ∧ M 732 4 = 1) ∧ ∃ C S F W R X T E d tu g own bd si p o e ec tc fl, CAR A M Lc Lm C S F W R X T t E d tu g own Sb bd si p o e ec tc fl ∧ A 3 14 = sI X ∧ ∀ c, C ≤ c → c < 6 → si c = false
theorem hc_hs {A M : mwM} {Lc Lm : mwL} {Sb : Nat → Nat} {t : Nat} (h : HC A M Lc Lm Sb t) : HS A M Lc Lm Sb := by
  obtain ⟨h1, h2, ⟨h3, h4⟩, h5, ⟨h6, h7⟩, C, S, F, W, R, X, T, E, d, tu, g, own, bd, si, p, o, e, ec, tc, fl, c, c4, c5⟩ := h
  obtain ⟨n1, n2, n3⟩ := car_hi c
  exact ⟨h1, h2, ⟨n1, n2, n3, h3, h4⟩, h5, Or.inr ⟨h6, h7, C, S, F, W, R, X, T, t, E, d, tu, g, own, bd, si, p, o, e, ec, tc, fl, c, c4, c5⟩⟩
theorem pr_keep {A' M M' : mwM} {Lc Lc' Lm Lm' : mwL} {C S F W R X T t E : Nat} {d : Nat → Nat → Nat} {tu : Nat → Bool} {g : Nat → Nat → Nat} {own Sb bd : Nat → Nat} {si : Nat → Bool} {p : PB} {o : Nat → Nat → Nat} {e ec tc fl : Nat → Nat} (hB : PrB M Lc Lm) (h : CAR A' M' Lc' Lm' C S F W R X T t E d tu g own Sb bd si p o e ec tc fl) (kM : kpM X M M') (kC : kpC X Lc Lc') (kL : kpL X Lm Lm') : PrB M' Lc' Lm' := by
  intro x hx
  by_cases c : x < X
  · obtain ⟨hTk, _, _, _, _, _, hCx, _⟩ := h
    obtain ⟨va, w, nw, v1, v2, v3, _⟩ := hCx x c
    obtain ⟨⟨_, p1, p2, p3, _⟩, _⟩ := v1.1
    obtain ⟨⟨_, r1⟩, _⟩ := v3
    obtain ⟨r4, r5, r6⟩ := r1 0 (by omega)
    rw [p1] at r4
    rw [p2] at r5
    rw [p3] at r6
    obtain ⟨_, _, _, _, _, q⟩ := hTk.2.2.2.1 x c
    exact ⟨r5, r4, r6, fun y _ => by rw [q]⟩
  · obtain ⟨b1, b2, b3, b4⟩ := hB x hx
    rw [kM _ _ (by omega), kM _ _ (by omega), kM _ _ (by omega)]
    exact ⟨b1, b2, b3, fun y hy => by rw [kC _ _ (by omega) (by omega) hy, kL _ _ (by omega) (by omega) hy]; exact b4 y hy⟩
theorem hc_step {fu t : Nat} {A M : mwM} {Lc Lm : mwL} {Sb : Nat → Nat} (hfu : 5000 ≤ fu) (ht : t < 20000) (h : HC A M Lc Lm Sb t) : ∃ A' M' Lc' Lm', DX1_passMicrosecond fu A Lc = some (A', Lc') ∧ DX19_microsecond fu M Lm = some (M', Lm') ∧ M' 732 0 = M 732 0 ∧ HC A' M' Lc' Lm' Sb (t + 1) := by
  obtain ⟨⟨k, k1, k2, k3⟩, ⟨n, tx, t1, t2⟩, ⟨h3, h4⟩, h5, ⟨h6, h7⟩, C, S, F, W, R, X, T, E, d, tu, g, own, bd, si, p, o, e, ec, tc, fl, c, c4, c5⟩ := h
  obtain ⟨A', M', Lc', Lm', E', bd', p', o', e', ec', tc', x1, x2, x3, x4, x5, x6, x7⟩ := st_second hfu ht c
  exact ⟨A', M', Lc', Lm', x1, x2, x4 _ _ (by omega), ⟨k, k1, by rw [x7 _ _ (by omega)]; exact k2, by rw [x4 _ _ (by omega)]; exact k3⟩, ⟨n, tx, TxC_f t1 (fun a y u => x7 a y (by omega)), TxM_f t2 (fun a y u => x4 a y (by omega))⟩, ⟨pr_keep h3 x3 x4 x5 x6, fun q hq y hy => by rw [x4 _ _ (by omega)]; exact h4 q hq y hy⟩, by rw [x7 _ _ (by omega), x4 _ _ (by omega)]; exact h5, ⟨by rw [x7 _ _ (by omega)]; exact h6, by rw [x4 _ _ (by omega)]; exact h7⟩, C, S, F, W, R, X, T, E', d, tu, g, own, bd', si, p', o', e', ec', tc', fl, x3, by rw [x7 _ _ (by omega)]; exact c4, c5⟩
theorem car_done {A M : mwM} {Lc Lm : mwL} {Sb : Nat → Nat} {t : Nat} (h : HC A M Lc Lm Sb t) : A 20 11 = M 821 11 ∧ A 3 16 = sI t ∧ M 732 83 = sI t ∧ t ≤ 20000 := by
  obtain ⟨_, _, _, _, _, C, S, F, W, R, X, T, E, d, tu, g, own, bd, si, p, o, e, ec, tc, fl, ⟨hTk, _, _, ⟨_, _, _, _, _, _, hB⟩, _⟩, _⟩ := h
  have := hB.1.2.2.2.2.2.2.2.1
  exact ⟨by rw [this.1, this.2], hTk.2.2.2.2.2.2.2.2.2.2.2.1, hTk.2.2.2.2.2.2.2.2.2.2.2.2.1, hTk.2.2.2.2.2.2.2.2.2.2.2.2.2⟩
theorem m_done0 {fu : Nat} {M : mwM} {L : mwL} : DX12_done fu (-1) 0 M L = some (M 821 11, mset M 821 0 0, L) := by
  unfold DX12_done
  rw [mlet_e, if_pos (show (-1 : Int32) = -1 from rfl), if_pos (show (0 : Int32) = 0 from rfl), mset_n (by omega)]
theorem HC_821 {A M : mwM} {Lc Lm : mwL} {Sb : Nat → Nat} {t : Nat} (h : HC A M Lc Lm Sb t) : HC A (mset M 821 0 0) Lc Lm Sb t := by
  obtain ⟨⟨k, k1, k2, k3⟩, ⟨n, tx, t1, t2⟩, ⟨h3, h4⟩, h5, ⟨h6, h7⟩, C, S, F, W, R, X, T, E, d, tu, g, own, bd, si, p, o, e, ec, tc, fl, c, c4, c5⟩ := h
  exact ⟨⟨k, k1, k2, by rw [mset_n (by omega)]; exact k3⟩, ⟨n, tx, t1, TxM_f t2 (fun a y u => mset_n (by omega))⟩, ⟨PrB_f h3 (fun a u1 u2 => mset_n (by omega)) (fun _ _ _ _ _ => rfl) (fun _ _ _ _ _ => rfl), fun q hq y hy => by rw [mset_n (by omega)]; exact h4 q hq y hy⟩, by rw [mset_n (by omega)]; exact h5, ⟨h6, by rw [mset_n (by omega)]; exact h7⟩, C, S, F, W, R, X, T, E, d, tu, g, own, bd, si, p, o, e, ec, tc, fl, CAR_g c (fun _ _ _ => rfl) (fun a y u1 u2 => mset_n (by omega)), c4, c5⟩
theorem st_runL {fu N : Nat} {x : Int32} {Sb : Nat → Nat} (hfu : 30000 ≤ fu) (hN : N ≤ 20000) : ∀ (m i t q q' : Nat) (A M : mwM) (Lc Lm : mwL), i + m = N → m < q → m < q' → t + m ≤ 20000 → HC A M Lc Lm Sb t → ∃ r A' M' Lc' Lm', fX11_run_h59 fu (sI N) q (x, sI i, A, Lc) = some ((0, r), A', Lc') ∧ fX19_run_h57 fu (sI N) q' (x, sI i, M, Lm) = some (r, M', Lm') ∧ M' 732 0 = M 732 0 ∧ HC A' M' Lc' Lm' Sb (t + m) := by
  intro m
  induction m with
  | zero =>
    intro i t q q' A M Lc Lm hi hq hq' ht h
    obtain ⟨q, rfl⟩ : ∃ y, q = y + 1 := ⟨q - 1, by omega⟩
    obtain ⟨q', rfl⟩ : ∃ y, q' = y + 1 := ⟨q' - 1, by omega⟩
    refine ⟨A 20 11 - x, A, mset M 821 0 0, Lc, Lm, ?_, ?_, mset_n (by omega), HC_821 h⟩
    · show fX11_run_i59 fu (sI N) (fX11_run_h59 fu (sI N) q) x (sI i) A Lc = _
      unfold fX11_run_i59
      rw [if_pos (show sI N ≤ sI i by rw [sI_le (by omega) (by omega)]; omega)]
    · show fX19_run_i57 fu (sI N) (fX19_run_h57 fu (sI N) q') x (sI i) M Lm = _
      unfold fX19_run_i57
      rw [if_pos (show sI N ≤ sI i by rw [sI_le (by omega) (by omega)]; omega), m_done0, mb3_s, (car_done h).1]
  | succ m ih =>
    intro i t q q' A M Lc Lm hi hq hq' ht h
    obtain ⟨q, rfl⟩ : ∃ y, q = y + 1 := ⟨q - 1, by omega⟩
    obtain ⟨q', rfl⟩ : ∃ y, q' = y + 1 := ⟨q' - 1, by omega⟩
    obtain ⟨A1, M1, Lc1, Lm1, e1, e2, e0, e3⟩ := hc_step (fu := fu) (by omega) (by omega) h
    obtain ⟨r, A', M', Lc', Lm', g1, g2, g3, g4⟩ := ih (i + 1) (t + 1) q q' A1 M1 Lc1 Lm1 (by omega) (by omega) (by omega) (by omega) e3
    refine ⟨r, A', M', Lc', Lm', ?_, ?_, ?_, by rw [show t + (m + 1) = t + 1 + m by omega]; exact g4⟩
    · show fX11_run_i59 fu (sI N) (fX11_run_h59 fu (sI N) q) x (sI i) A Lc = _
      unfold fX11_run_i59
      rw [if_neg (show ¬ sI N ≤ sI i by rw [sI_le (by omega) (by omega)]; omega), e1, mb2_s, mlet_e, sI_1, g1]
    · show fX19_run_i57 fu (sI N) (fX19_run_h57 fu (sI N) q') x (sI i) M Lm = _
      unfold fX19_run_i57
      rw [if_neg (show ¬ sI N ≤ sI i by rw [sI_le (by omega) (by omega)]; omega), e2, mb2_s, mlet_e, sI_1, g2]
    · rw [g3]
      exact e0
theorem nat_le {a : Int32} {m : Nat} (h0 : 0 ≤ a) (h : a ≤ sI m) (hm : m < 2000000000) : ∃ N, N ≤ m ∧ a = sI N := by
  have h0' : 0 ≤ a.toInt := Int32.le_iff_toInt_le.mp h0
  refine ⟨nn a, ?_, sI_of h0'⟩
  have h' := Int32.le_iff_toInt_le.mp h
  rw [sI_toInt hm] at h'
  have : ((nn a : Nat) : Int) = a.toInt := Int.toNat_of_nonneg h0'
  omega
theorem st_run {fu : Nat} {a1 : Int32} {A M : mwM} {Lc Lm : mwL} {Sb : Nat → Nat} (hfu : 30000 ≤ fu) (h : HS A M Lc Lm Sb) : ∃ (w : Nat) (r : Int32) (A' M' : mwM) (Lc' Lm' : mwL), DX11_run fu a1 A Lc = some ((w, r), A', Lc') ∧ DX19_run fu a1 M Lm = some (r, M', Lm') ∧ w ≤ 2 ∧ M' 732 0 = sI (if w = 0 then 0 else 3 - w) ∧ HS A' M' Lc' Lm' Sb := by
  unfold DX11_run DX19_run fX11_run_b36 fX19_run_b28 fX19_run_b33
  by_cases c0 : 0 ≤ a1
  rotate_left
  · rw [if_neg c0, if_neg c0, mlet_e, mset_s, if_neg (show ¬ (1 : Int32) ≤ 0 by decide)]
    exact ⟨2, 0, A, _, Lc, Lm, rfl, rfl, by omega, mset_s, HS_0 h⟩
  rw [if_pos c0, if_pos c0]
  obtain ⟨h1, h2, ⟨i1, i2, i3, i4, i5⟩, h5, hc⟩ := id h
  have bad : ∃ (w : Nat) (r : Int32) (A' M' : mwM) (Lc' Lm' : mwL), some (((1 : Nat), (0 : Int32)), A, Lc) = some ((w, r), A', Lc') ∧ mlet (mset M 732 0 2) (fun M1 => (if (M1 732 0) ≤ 0 then mb3 (DX12_done fu ((-1)) 0 M1 Lm) (fun r5 M3 L4 => fX19_run_h57 fu a1 fu (r5, 0, M3, L4)) else some (0, M1, Lm))) = some (r, M', Lm') ∧ w ≤ 2 ∧ M' 732 0 = sI (if w = 0 then 0 else 3 - w) ∧ HS A' M' Lc' Lm' Sb := by
    rw [mlet_e, mset_s, if_neg (show ¬ (2 : Int32) ≤ 0 by decide)]
    exact ⟨1, 0, A, _, Lc, Lm, rfl, rfl, by omega, mset_s, HS_0 h⟩
  rcases hc with ⟨c1, c2⟩ | ⟨c1, c2, C, S, F, W, R, X, T, t, E, d, tu, g, own, bd, si, p, o, e, ec, tc, fl, c3, c4, c5⟩
  · rw [if_pos c1, if_pos c2]
    exact bad
  have hHC : HC A M Lc Lm Sb t := ⟨h1, h2, ⟨i4, i5⟩, h5, ⟨c1, c2⟩, C, S, F, W, R, X, T, E, d, tu, g, own, bd, si, p, o, e, ec, tc, fl, c3, c4, c5⟩
  obtain ⟨d1, d2, d3, d4⟩ := car_done hHC
  rw [if_neg (show ¬ A 0 5 = 0 by rw [c1]; decide), if_neg (show ¬ M 732 4 = 0 by rw [c2]; decide), d2, d3, show (20000 : Int32) - sI t = sI (20000 - t) by rw [show (20000 : Int32) = sI 20000 from rfl, sI_sub d4]]
  by_cases cN : a1 ≤ sI (20000 - t)
  rotate_left
  · rw [if_neg cN, if_neg cN]
    exact bad
  obtain ⟨N, hN, rfl⟩ := nat_le c0 cN (by omega)
  rw [if_pos cN, if_pos cN, mlet_e, mlet_e, mset_s, if_pos (show (0 : Int32) ≤ 0 by decide), m_done0, mb3_s, mset_n (show ¬ (821 = 732 ∧ 11 = 0) by omega), ← d1]
  have hH1 : HC A (mset (mset M 732 0 0) 821 0 0) Lc Lm Sb t := by
    refine HC_821 ⟨?_, ?_, ⟨PrB_f i4 (fun a u1 u2 => mset_n (by omega)) (fun _ _ _ _ _ => rfl) (fun _ _ _ _ _ => rfl), fun q hq y hy => by rw [mset_n (by omega)]; exact i5 q hq y hy⟩, by rw [mset_n (by omega)]; exact h5, ⟨c1, by rw [mset_n (by omega)]; exact c2⟩, C, S, F, W, R, X, T, E, d, tu, g, own, bd, si, p, o, e, ec, tc, fl, CAR_f c3 (fun _ _ _ => rfl) (fun a y u => mset_n (by omega)), c4, c5⟩
    · obtain ⟨k, k1, k2, k3⟩ := h1
      exact ⟨k, k1, k2, by rw [mset_n (by omega)]; exact k3⟩
    · obtain ⟨n, tx, t1, t2⟩ := h2
      exact ⟨n, tx, t1, TxM_f t2 (fun a y u => mset_n (by omega))⟩
  obtain ⟨r, A', M', Lc', Lm', g1, g2, g3, g4⟩ := st_runL (fu := fu) (N := N) (x := A 20 11) hfu (by omega) N 0 t fu fu A (mset (mset M 732 0 0) 821 0 0) Lc Lm (by omega) (by omega) (by omega) (by omega) hH1
  refine ⟨0, r, A', M', Lc', Lm', g1, g2, by omega, ?_, hc_hs g4⟩
  rw [g3, mset_n (by omega), mset_s]
  rfl
