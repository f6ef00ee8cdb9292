/-! READING: the line of a key -/
theorem nu_len {tx : Nat → Nat} {w s hi : Nat} (hb : nuB tx w s = true) (h1 : ¬ nuV tx w s < sI 500) (h2 : nuV tx w s ≤ sI hi) (hhi : hi < 2000000000) : 3 ≤ s := by
  obtain ⟨v, e, v1, v2⟩ := nu_nat (lo := 500) hb h1 h2 (by omega) hhi
  obtain ⟨d1, d2, d3⟩ := of_decide_eq_true hb
  have hv := hv_lt (tx := tx) (b := w + sgN tx w) (s - sgN tx w) d3
  have h9 : 10 ^ (s - sgN tx w) ≤ 10 ^ 9 := Nat.pow_le_pow_right (by omega) d2
  unfold nuV at e
  by_cases c3 : 3 ≤ s
  · exact c3
  exfalso
  have hlt : 10 ^ (s - sgN tx w) ≤ 10 ^ 2 := Nat.pow_le_pow_right (by omega) (by omega)
  generalize hvN tx (w + sgN tx w) (s - sgN tx w) = u at hv e
  by_cases c : tx w = 45
  · rw [if_pos c] at e
    have t1 : (sI u).toInt = u := sI_toInt (by omega)
    have t3 : (-(sI u)).toInt = -(u : Int) := by
      rw [Int32.toInt_neg, t1]
      exact Int.bmod_eq_of_le (by omega) (by omega)
    have t4 : (sI v).toInt = v := sI_toInt (by omega)
    rw [e, t4] at t3
    omega
  · rw [if_neg c, sI_eq (by omega) (by omega)] at e
    omega
theorem c_addKey {fu K : Nat} {a1 a2 a3 : Int32} {A : mwM} {L : mwL} (h : A 61 12 = sI K) (hK : K < 400) : DX6_addKey fu a1 a2 a3 A L = some (mset (mset (mset (mset A 82 K a1) 83 K a2) 84 K a3) 61 12 (sI (K + 1)), L) := by
  unfold DX6_addKey
  rw [if_pos (show A 61 12 < 400 by rw [h, show (400 : Int32) = sI 400 from rfl, sI_lt (by omega) (by omega)]; exact hK)]
  simp (disch := omega) only [mset_n, h, mck_s, sI_nn, mlet_e, sI_1]
theorem st_protect {fu n le a b C T X S K R W : Nat} {A M : mwM} {Lc Lm : mwL} {tx : Nat → Nat} {nl : List Nm} {ow ct : Nat → Nat} {sg : Nat → Nat → Nat} {tu : Nat → Bool} {ky rd wt : Nat → Nat → Nat} (hfu : 6100 ≤ fu) (h : Ld A M n tx le a) (hP : PR A M Lc Lm n C T X S K R W nl ow ct sg tu ky rd wt) (hb : a < le → tx a = 32) (hl : 12 * nl.length ≤ a) (hk : 15 * K + 7 ≤ a) : RlQ A M Lc Lm n le (DX8_readProtect fu A Lc) (DX19_addKey fu M Lm) := by
  obtain ⟨⟨c1, c2, c3⟩, pT, pX, pB, pS, pK, pR, pW, pN, nB⟩ := id hP
  have ha := h.2.2.2.2.2.2.2.1
  have hle := h.2.2.2.2.1
  have hn := h.1.2.1
  obtain ⟨A1, M1, f1, f2, hr⟩ := st_told (fu := fu) (Lc := Lc) (Lm := Lm) (k := 0) hfu h pN (by omega)
  have fa1 : fWn A A1 := fun x y u => f1 x y (by omega)
  have fm1 : fG T S M M1 := fun x y u1 u2 u3 => f2 x y (by omega)
  unfold DX8_readProtect DX19_addKey fX8_readProtect_b64 fX8_readProtect_b85 fX19_addKey_b23 fX19_addKey_b52
  rcases hr with ⟨q, q1, q2, q3, hk1, e1, e2, hL1, hH1⟩ | ⟨e1, e2, hX⟩
  rotate_left
  · rw [show DX8_toldName fu 0 0 A Lc = _ from e1, mb3_s, show DX19_named fu 1 M Lm = _ from e2, mb3_s, if_pos (show (-1 : Int32) < 0 by decide)]
    simp only [nf_number (Fx_n hX), nf_end (Fx_n hX), mb3_s, mb2_s, mlet_e, if_neg (Fx_n hX)]
    exact rl_bad hP (by omega) (by omega) fa1 fm1 hX rfl rfl
  have hco : q.2.2.2.2 < C := by
    rcases (nB.2 q q1).2 q2 with g | g | g | g <;> omega
  obtain ⟨k1, k2, k3⟩ := nw_2 ha hb hk1
  rw [show DX8_toldName fu 0 0 A Lc = _ from e1, mb3_s, show DX19_named fu 1 M Lm = _ from e2, mb3_s, if_neg (ns_s (by omega))]
  generalize hco' : q.2.2.2.2 = co at *
  obtain ⟨A2, M2, f3, f4, hr⟩ := st_number (fu := fu) (Lc := Lc) (Lm := Lm) (a1 := sI 500) (a2 := sI 20000) hfu hL1
  have fa2 : fWn A A2 := fun x y u => by rw [f3 x y (by omega), fa1 x y u]
  have fm2 : fG T S M M2 := fun x y u1 u2 u3 => by rw [f4 x y (by omega), fm1 x y u1 u2 u3]
  rcases hr with ⟨hk2, z1, z2, z3, e3, e4, e5, hL2, hH2⟩ | ⟨e3, e4, hX⟩
  rotate_left
  · rw [show DX8_number fu 500 20000 A1 Lc = _ from e3, mb3_s, show DX19_number fu 500 20000 M1 Lm = _ from e4, mb3_s, if_pos (show (0 : Int32) = 0 from rfl)]
    simp only [nf_number (Fx_n hX), nf_end (Fx_n hX), mb3_s, mb2_s, mlet_e, if_neg (Fx_n hX)]
    exact rl_bad hP (by omega) (by omega) fa2 fm2 hX rfl rfl
  obtain ⟨pe, y1, y2, y3⟩ := nu_nat (lo := 500) (hi := 20000) z1 z2 z3 (by omega) (by omega)
  have hs3 := nu_len z1 z2 z3 (by omega)
  rw [y1] at e3 e5
  obtain ⟨k4, k5, k6⟩ := nw_2 k2 k3 hk2
  have k4' : nwE tx le a < nwB tx le (nwE tx le a) := by
    have hh := nw_b (tx := tx) k2
    have : nwB tx le (nwE tx le a) < le := (of_decide_eq_true hk2).1
    exact hh.2.2.2.2.2.2.1 hk2 (k3 (by omega))
  obtain ⟨w8, w9, m9, m10, hlt⟩ := id hH2
  rw [show DX8_number fu 500 20000 A1 Lc = _ from e3, mb3_s, mlet_e, w8, show DX19_number fu 500 20000 M1 Lm = _ from e4, mb3_s, if_neg (show ¬ (1 : Int32) = 0 by decide), mlet_e, mlet_e, e5, m9]
  obtain ⟨A3, M3, f5, f6, hr⟩ := st_number (fu := fu) (Lc := Lc) (Lm := Lm) (a1 := sI 1) (a2 := sI 16) hfu hL2
  have fa3 : fWn A A3 := fun x y u => by rw [f5 x y (by omega), fa2 x y u]
  have fm3 : fG T S M M3 := fun x y u1 u2 u3 => by rw [f6 x y (by omega), fm2 x y u1 u2 u3]
  rcases hr with ⟨hk3, z1, z2, z3, e6, e7, e8, hL3, _⟩ | ⟨e6, e7, hX⟩
  rotate_left
  · rw [show DX8_number fu 1 16 A2 Lc = _ from e6, mb3_s, show DX19_number fu 1 16 M2 Lm = _ from e7, mb3_s, if_pos (show (0 : Int32) = 0 from rfl)]
    simp only [nf_end (Fx_n hX), mb3_s, mb2_s, if_neg (Fx_n hX)]
    exact rl_bad hP (by omega) (by omega) fa3 fm3 hX rfl rfl
  obtain ⟨v, y4, y5, y6⟩ := nu_nat (lo := 1) (hi := 16) z1 z2 z3 (by omega) (by omega)
  rw [y4] at e6 e8
  obtain ⟨k7, k8, k9⟩ := nw_2 k5 k6 hk3
  rw [show DX8_number fu 1 16 A2 Lc = _ from e6, mb3_s, show DX19_number fu 1 16 M2 Lm = _ from e7, mb3_s, if_neg (show ¬ (1 : Int32) = 0 by decide)]
  obtain ⟨A4, M4, f7, f8, hr⟩ := st_eol (fu := fu) (Lc := Lc) (Lm := Lm) hfu hL3
  have fa4 : fWn A A4 := fun x y u => by rw [f7 x y (by omega), fa3 x y u]
  have fm4 : fG T S M M4 := fun x y u1 u2 u3 => by rw [f8 x y (by omega), fm3 x y u1 u2 u3]
  rcases hr with ⟨hk4, e9, e10, hL4⟩ | ⟨e9, e10, hX⟩
  rotate_left
  · rw [e9, mb2_s, if_neg (Fx_n hX), if_neg (Fx_n hX), e10, mb3_s, if_pos (show (0 : Int32) = 0 from rfl)]
    exact rl_bad hP (by omega) (by omega) fa4 fm4 hX rfl rfl
  have l9 := hL4.2.2.2.2.2.2.2.2
  have m13 : M4 732 13 = sI v := by rw [f8 _ _ (by omega)]; exact e8
  have hP4 := PR_f hP (A' := A4) (M' := M4) (fun a y u => fa4 a y (by omega)) (fun a y u1 u2 u3 => fm4 a y (by omega) u2 u3)
  obtain ⟨⟨c1', c2', c3'⟩, pT', pX', pB', pS', ⟨kC, kM, kk⟩, pR', pW', pN', nB'⟩ := hP4
  have ck := c_keyOf (fu := fu) (c := co) (p := pe) (L := Lc) (by omega) kC (by omega) y3
  have mk := m_keyOf (fu := fu) (c := co) (p := pe) (L := Lm) (by omega) kM (by omega) y3
  have kv16 : kyf (ky 0) (ky 1) (ky 2) co pe K 0 ≤ 16 := kyf_le K 0 (fun j hj => (kC.2.2 j (by omega)).2.2.2.2.2)
  generalize kyf (ky 0) (ky 1) (ky 2) co pe K 0 = kv at ck mk kv16
  rw [e9, mb2_s, if_pos l9, ck, mb3_s, e10, mb3_s, if_neg (show ¬ (1 : Int32) = 0 by decide), mk, mb3_s]
  by_cases ckv : kv = 0
  rotate_left
  · have hX : Fx (mset (mset A4 1 12 3) 1 13 (sI (nwB tx le (nwE tx le a)))) (mset (mset M4 732 11 3) 732 12 (sI (nwB tx le (nwE tx le a)))) := Fx_i (k := 3) (by omega) (by omega) (by have := (nw_b (tx := tx) k2).2.1; omega)
    rw [if_neg (show ¬ sI kv = 0 by rw [show (0 : Int32) = sI 0 from rfl, sI_eq (by omega) (by omega)]; exact ckv), c_fail l9, mb2_s, if_neg (Fx_n hX), if_neg (show ¬ sI kv ≤ 0 by rw [show (0 : Int32) = sI 0 from rfl, sI_le (by omega) (by omega)]; omega), m_fail, mb3_s]
    exact rl_bad hP (by omega) (by omega) (fun x y u => by rw [mset_n (by omega), mset_n (by omega), fa4 x y u]) (fun x y u1 u2 u3 => by rw [mset_n (by omega), mset_n (by omega), fm4 x y u1 u2 u3]) hX rfl rfl
  subst ckv
  obtain ⟨kC1, kC2, kC3⟩ := kC
  obtain ⟨kM1, kM2, kM3⟩ := kM
  rw [if_pos (show sI 0 = (0 : Int32) from rfl), if_pos l9, c_addKey kC1 (by omega), mb2_s, if_pos (show sI 0 ≤ (0 : Int32) by decide)]
  have Rr : mck (M4 732 20) 600 (mlet (mset M4 738 ((M4 732 20).toNatClampNeg) (sI co)) (fun M24 => mck (M24 732 20) 600 (mlet (mset M24 739 ((M24 732 20).toNatClampNeg) (sI pe)) (fun M26 => mck (M26 732 20) 600 (mlet (mset M26 740 ((M26 732 20).toNatClampNeg) (M26 732 13)) (fun M28 => mlet (mset M28 732 20 ((M28 732 20) + 1)) (fun M29 => some ((1 : Int32), M29, Lm)))))))) = some (1, mset (mset (mset (mset M4 738 K (sI co)) 739 K (sI pe)) 740 K (sI v)) 732 20 (sI (K + 1)), Lm) := by
    simp (disch := omega) only [mset_n, kM1, m13, mck_s, sI_nn, mlet_e, sI_1]
  rw [Rr]
  generalize hA0 : mset (mset (mset (mset A4 82 K (sI co)) 83 K (sI pe)) 84 K (sI v)) 61 12 (sI (K + 1)) = A0
  generalize hM0 : mset (mset (mset (mset M4 738 K (sI co)) 739 K (sI pe)) 740 K (sI v)) 732 20 (sI (K + 1)) = M0
  have hA4 : ∀ x y, ¬ (x = 61 ∧ y = 12) → ¬ (82 ≤ x ∧ x ≤ 84 ∧ y = K) → A0 x y = A4 x y := fun x y u1 u2 => by
    rw [← hA0]
    simp (disch := omega) only [mset_n]
  have hM4 : ∀ x y, ¬ (x = 732 ∧ y = 20) → ¬ (738 ≤ x ∧ x ≤ 740 ∧ y = K) → M0 x y = M4 x y := fun x y u1 u2 => by
    rw [← hM0]
    simp (disch := omega) only [mset_n]
  refine ⟨A0, M0, Lc, Lm, true, rfl, rfl, ⟨fun p y u => ?_, fun p y u => ?_, ?_, ?_⟩, ?_, C, T, X, S, K + 1, R, W, nl, ow, ct, sg, tu, fun i j => if j = K then (if i = 0 then co else if i = 1 then pe else v) else ky i j, rd, wt, ⟨⟨by rw [hA4 _ _ (by omega) (by omega)]; exact c1', by rw [hM4 _ _ (by omega) (by omega)]; exact c2', c3⟩, PrT_f pT' (fun x y u => hA4 x y (by omega) (by omega)) (fun x y u => hM4 x y (by omega) (by omega)), PrX_f pX' (fun x y u => hA4 x y (by omega) (by omega)) (fun x y u => hM4 x y (by omega) (by omega)) (fun _ _ _ => rfl) (fun _ _ => rfl), PrB_f pB' (fun x u1 u2 => hM4 x 0 (by omega) (by omega)) (fun _ _ _ _ _ => rfl) (fun _ _ _ _ _ => rfl), PrS_f pS' (fun x y u => hA4 x y (by omega) (by omega)) (fun x y u => hM4 x y (by omega) (by omega)), ⟨⟨by rw [← hA0, mset_s], by omega, fun i hi => ?_⟩, ⟨by rw [← hM0, mset_s], by omega, fun i hi => ?_⟩, fun i hi => ?_⟩, RdR_f pR' (fun x y u => hA4 x y (by omega) (by omega)) (fun x y u => hM4 x y (by omega) (by omega)) (fun _ => rfl) (fun _ => rfl), PrW_f pW' (fun x y u1 u2 => hA4 x y (by omega) (by omega)) (fun x y u => hM4 x y (by omega) (by omega)) (fun _ => rfl), NaR_f pN' (fun x y u => hA4 x y (by omega) (by omega)) (fun x y u => hM4 x y (by omega) (by omega)), nB⟩, by omega, by omega⟩
  · rw [hA4 p y (by omega) (by omega), fa4 p y (by omega)]
  · rw [hM4 p y (by omega) (by omega), fm4 p y (by omega) (by omega) (by omega)]
  · exact fun _ _ => rfl
  · exact fun _ _ _ => rfl
  · rw [if_pos rfl, hA4 _ _ (by omega) (by omega)]
    exact l9
  · dsimp only
    by_cases ci : i = K
    · subst ci
      rw [← hA0]
      simp (disch := omega) only [mset_n, mset_s]
      exact ⟨rfl, rfl, rfl, by show co < 6; omega, by show pe ≤ 20000; omega, by show v ≤ 16; omega⟩
    · rw [if_neg ci, if_neg ci, if_neg ci, hA4 _ _ (by omega) (by omega), hA4 _ _ (by omega) (by omega), hA4 _ _ (by omega) (by omega)]
      exact kC3 i (by omega)
  · dsimp only
    by_cases ci : i = K
    · subst ci
      rw [← hM0]
      simp (disch := omega) only [mset_n, mset_s]
      exact ⟨rfl, rfl, rfl, by show co < 6; omega, by show pe ≤ 20000; omega, by show v ≤ 16; omega⟩
    · rw [if_neg ci, if_neg ci, if_neg ci, hM4 _ _ (by omega) (by omega), hM4 _ _ (by omega) (by omega), hM4 _ _ (by omega) (by omega)]
      exact kM3 i (by omega)
  · dsimp only
    by_cases ci : i = K
    · rw [if_pos ci]
      exact y5
    · rw [if_neg ci]
      exact kk i (by omega)
