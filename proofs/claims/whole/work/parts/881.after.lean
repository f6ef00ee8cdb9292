/-! READING: lines that add to one chart -/
theorem PR_ch {A A' M M' : mwM} {Lc Lc' Lm Lm' : mwL} {n C T X S K R W x : Nat} {nl nl' : List Nm} {ow ct : Nat → Nat} {sg : Nat → Nat → Nat} {tu : Nat → Bool} {ky rd wt : Nat → Nat → Nat} (hP : PR A M Lc Lm n C T X S K R W nl ow ct sg tu ky rd wt) (hx : x < X) (hA : ∀ a y, ¬ (293 + 36 * x ≤ a ∧ a ≤ 293 + 36 * x + 35) → ¬ a = 1 → ¬ (726 ≤ a ∧ a ≤ 730) → A' a y = A a y) (hA5 : A' (293 + 36 * x) 5 = A (293 + 36 * x) 5) (hM : ∀ a y, ¬ (964 + 53 * x ≤ a ∧ a ≤ 964 + 53 * x + 52) → ¬ (a = 750 ∧ y = x) → ¬ (a = 732 ∧ 6 ≤ y ∧ y ≤ 14) → ¬ (754 ≤ a ∧ a ≤ 759) → M' a y = M a y) (hC : ∀ a, a ≠ 293 + 36 * x + 34 → Lc' a = Lc a) (hL : ∀ a, ¬ (964 + 53 * x ≤ a ∧ a ≤ 964 + 53 * x + 52) → Lm' a = Lm a) (hN : NaR A' M' n X nl') (hB : NmB C T X S nl') (hc : ChP A' M' Lc' Lm' x (nsL (1 + 2 * x) nl').length (nsL (2 + 2 * x) nl').length) (hσ : ∀ z, z ≠ x → nsL (1 + 2 * z) nl' = nsL (1 + 2 * z) nl ∧ nsL (2 + 2 * z) nl' = nsL (2 + 2 * z) nl) : PR A' M' Lc' Lm' n C T X S K R W nl' ow ct sg tu ky rd wt := by
  obtain ⟨⟨h1, h2, h3⟩, h4, ⟨x1, x2, x3, x4, x5⟩, h6, h7, h8, h9, h10, h11, h12⟩ := hP
  refine ⟨⟨by rw [hA _ _ (by omega) (by omega) (by omega)]; exact h1, by rw [hM _ _ (by omega) (by omega) (by omega) (by omega)]; exact h2, h3⟩, PrT_f h4 (fun a y u => hA a y (by omega) (by omega) (by omega)) (fun a y u => hM a y (by omega) (by omega) (by omega) (by omega)), ⟨by rw [hA _ _ (by omega) (by omega) (by omega)]; exact x1, by rw [hM _ _ (by omega) (by omega) (by omega) (by omega)]; exact x2, x3, fun z hz => ?_, fun z z1 z2 => by rw [hA _ _ (by omega) (by omega) (by omega)]; exact x5 z z1 z2⟩, fun z hz => ?_, PrS_f h7 (fun a y u => hA a y (by omega) (by omega) (by omega)) (fun a y u => hM a y (by omega) (by omega) (by omega) (by omega)), PrK_f h8 (fun a y u => hA a y (by omega) (by omega) (by omega)) (fun a y u => hM a y (by omega) (by omega) (by omega) (by omega)), RdR_f h9 (fun a y u => hA a y (by omega) (by omega) (by omega)) (fun a y u => hM a y (by omega) (by omega) (by omega) (by omega)) (fun y => by rw [hC _ (by omega)]) (fun y => by rw [hL _ (by omega)]), PrW_f h10 (fun a y a1 a2 => hA a y (by omega) (by omega) (by omega)) (fun a y u => hM a y (by omega) (by omega) (by omega) (by omega)) (fun y => by rw [hL _ (by omega)]), hN, hB⟩
  · obtain ⟨g1, g2, g3, g4⟩ := x4 z hz
    by_cases cz : z = x
    · rw [cz] at g1 g2 g3 ⊢
      exact ⟨by rw [hM _ _ (by omega) (by omega) (by omega) (by omega)]; exact g1, g2, by rw [hA5]; exact g3, hc⟩
    · rw [(hσ z cz).1, (hσ z cz).2]
      exact ⟨by rw [hM _ _ (by omega) (by omega) (by omega) (by omega)]; exact g1, g2, by rw [hA _ _ (by omega) (by omega) (by omega)]; exact g3, ChP_f g4 (fun a y u1 u2 => hA a y (by omega) (by omega) (by omega)) (fun a y u => hM a y (by omega) (by omega) (by omega) (by omega)) (hC _ (by omega)) (fun a u1 u2 => hL a (by omega))⟩
  · by_cases cz : z = x
    · rw [cz]
      obtain ⟨_, _, _, _, _, c, va, D, xx, v1, v2, v3, _⟩ := hc
      obtain ⟨⟨_, r1⟩, _, _, ⟨_, _, _, _, _, r2, _⟩, _⟩ := v3
      obtain ⟨_, _, _, ⟨_, _, _, _, _, r3⟩, _⟩ := v2
      obtain ⟨⟨_, p1, p2, p3, _⟩, _⟩ := v1
      obtain ⟨r4, r5, r6⟩ := r1 0 (by omega)
      rw [p1] at r4
      rw [p2] at r5
      rw [p3] at r6
      refine ⟨r5, r4, r6, fun y _ => ?_⟩
      rw [r3, r2]
    · obtain ⟨b1, b2, b3, b4⟩ := h6 z hz
      rw [hM _ _ (by omega) (by omega) (by omega) (by omega), hM _ _ (by omega) (by omega) (by omega) (by omega), hM _ _ (by omega) (by omega) (by omega) (by omega)]
      refine ⟨b1, b2, b3, fun y hy => ?_⟩
      rw [hC _ (by omega), hL _ (by omega)]
      exact b4 y hy
theorem nf_keep {fu : Nat} {a1 a2 a3 : Int32} {A : mwM} {L : mwL} (h : ¬ A 1 12 = 0) : DX8_keepName fu a1 a2 a3 A L = some (A, L) := by
  unfold DX8_keepName
  rw [if_neg h]
  rfl
abbrev hdK (r : Int32) : Nat := if r = -4 then 6 else 7
theorem c_heed {fu b : Nat} {r : Int32} {A : mwM} {L : mwL} (h12 : A 1 12 = 0) (h7 : A 1 7 = sI b) (hr : ¬ (0 : Int32) ≤ r) : DX8_heed fu r A L = some (flA A (sI (hdK r)) (sI b), L) := by
  unfold DX8_heed fX8_heed_b18 fX8_heed_b25
  rw [if_neg hr, c_fail h12, mb2_s, c_fail h12, mb2_s, h7]
  by_cases c : r = -4
  · rw [if_pos c, show hdK r = 6 from if_pos c]
    rfl
  · rw [if_neg c, show hdK r = 7 from if_neg c]
    rfl
theorem c_heed0 {fu m : Nat} {A : mwM} {L : mwL} (hm : m < 2000000000) : DX8_heed fu (sI m) A L = some (A, L) := by
  unfold DX8_heed fX8_heed_b25
  rw [if_pos (show (0 : Int32) ≤ sI m by rw [show (0 : Int32) = sI 0 from rfl, sI_le (by omega) hm]; omega)]
theorem m_fits {fu b : Nat} {r : Int32} {M : mwM} {L : mwL} (h8 : M 732 8 = sI b) (hr : ¬ (0 : Int32) ≤ r) : DX19_fits fu r M L = some (0, flM M (sI (hdK r)) (sI b), L) := by
  unfold DX19_fits fX19_fits_b18 fX19_fits_b28 fX19_fits_b33
  rw [if_neg hr, m_fail, mb3_s, if_pos (show (0 : Int32) = 0 from rfl), m_fail, mb3_s, if_pos (show (0 : Int32) = 0 from rfl), h8]
  by_cases c : r = -4
  · rw [if_pos c, show hdK r = 6 from if_pos c]
    rfl
  · rw [if_neg c, show hdK r = 7 from if_neg c]
    rfl
theorem m_fits0 {fu m : Nat} {M : mwM} {L : mwL} (hm : m < 2000000000) : DX19_fits fu (sI m) M L = some (1, M, L) := by
  unfold DX19_fits fX19_fits_b28 fX19_fits_b33
  rw [if_pos (show (0 : Int32) ≤ sI m by rw [show (0 : Int32) = sI 0 from rfl, sI_le (by omega) hm]; omega)]
  rfl
/-- the chart refuses -/
theorem rl_heed {A0 M0 A M M' : mwM} {Lc Lm Lm' : mwL} {n le b C T X S K R W x : Nat} {r : Int32} {nl : List Nm} {ow ct : Nat → Nat} {sg : Nat → Nat → Nat} {tu : Nat → Bool} {ky rd wt : Nat → Nat → Nat} {P : Option (mwM × mwL)} {Q : Option (Int32 × mwM × mwL)} (hP : PR A M Lc Lm n C T X S K R W nl ow ct sg tu ky rd wt) (hl : 12 * nl.length ≤ le + 1) (hk : 15 * K ≤ le + 1) (fa : fWn A0 A) (fm : fG T S M0 M) (hx : x < X) (hb : b ≤ 6000) (hM : ∀ a y, ¬ (964 + 53 * x ≤ a ∧ a ≤ 964 + 53 * x + 29) → M' a y = M a y) (hL : ∀ a, ¬ (964 + 53 * x ≤ a ∧ a ≤ 964 + 53 * x + 29) → Lm' a = Lm a) (hc : ChP A M' Lc Lm' x (nsL (1 + 2 * x) nl).length (nsL (2 + 2 * x) nl).length) (e1 : P = some (flA A (sI (hdK r)) (sI b), Lc)) (e2 : Q = some (0, flM M' (sI (hdK r)) (sI b), Lm')) : RlQ A0 M0 Lc Lm n le P Q := by
  have hx12 := hP.2.2.1.2.2.1
  have hk8 : 1 ≤ hdK r ∧ hdK r ≤ 8 := by
    unfold hdK
    by_cases c : r = -4
    · rw [if_pos c]
      omega
    · rw [if_neg c]
      omega
  have fA : ∀ p y, ¬ (p = 1 ∧ (y = 12 ∨ y = 13)) → flA A (sI (hdK r)) (sI b) p y = A p y := fun p y u => by
    show mset (mset A 1 12 _) 1 13 _ p y = _
    rw [mset_n (by omega), mset_n (by omega)]
  have fM : ∀ p y, ¬ (p = 732 ∧ (y = 11 ∨ y = 12)) → flM M' (sI (hdK r)) (sI b) p y = M' p y := fun p y u => by
    show mset (mset M' 732 11 _) 732 12 _ p y = _
    rw [mset_n (by omega), mset_n (by omega)]
  refine ⟨_, _, Lc, Lm', false, e1, e2, ⟨fun p y u => ?_, fun p y u => ?_, ?_, ?_⟩, ?_, C, T, X, S, K, R, W, nl, ow, ct, sg, tu, ky, rd, wt, PR_ch hP hx (fun p y u1 u2 u3 => fA p y (by omega)) (fA _ _ (by omega)) (fun p y u1 u2 u3 u4 => by rw [fM p y (by omega), hM p y (by omega)]) (fun _ _ => rfl) (fun p u => hL p (by omega)) ?_ hP.2.2.2.2.2.2.2.2.2 ?_ (fun z _ => ⟨rfl, rfl⟩), hl, hk⟩
  · rw [fA p y (by omega), fa p y (by omega)]
  · rw [fM p y (by omega), hM p y (by omega), fm p y (by omega) (by omega) (by omega)]
  · exact fun _ _ => rfl
  · exact fun p u1 u2 => hL p (by omega)
  · rw [if_neg (by decide)]
    exact Fx_i hk8.1 hk8.2 hb
  · exact NaR_f hP.2.2.2.2.2.2.2.2.1 (fun p y u => fA p y (by omega)) (fun p y u => by rw [fM p y (by omega), hM p y (by omega)])
  · exact ChP_f hc (fun p y u1 u2 => fA p y (by omega)) (fun p y u => fM p y (by omega)) rfl (fun _ _ _ => rfl)
/-- the chart took it; no name is new -/
theorem rl_chart {A0 M0 A A' M M' : mwM} {Lc Lc' Lm Lm' : mwL} {n le C T X S K R W x : Nat} {nl : List Nm} {ow ct : Nat → Nat} {sg : Nat → Nat → Nat} {tu : Nat → Bool} {ky rd wt : Nat → Nat → Nat} {P : Option (mwM × mwL)} {Q : Option (Int32 × mwM × mwL)} (hP : PR A M Lc Lm n C T X S K R W nl ow ct sg tu ky rd wt) (hl : 12 * nl.length ≤ le + 1) (hk : 15 * K ≤ le + 1) (fa : fWn A0 A) (fm : fG T S M0 M) (hx : x < X) (h12 : A 1 12 = 0) (hA : ∀ a y, ¬ (293 + 36 * x ≤ a ∧ a ≤ 293 + 36 * x + 35) → A' a y = A a y) (hA5 : A' (293 + 36 * x) 5 = A (293 + 36 * x) 5) (hM : ∀ a y, ¬ (964 + 53 * x ≤ a ∧ a ≤ 964 + 53 * x + 29) → ¬ (a = 750 ∧ y = x) → M' a y = M a y) (hC : ∀ a, a ≠ 293 + 36 * x + 34 → Lc' a = Lc a) (hL : ∀ a, ¬ (964 + 53 * x ≤ a ∧ a ≤ 964 + 53 * x + 29) → Lm' a = Lm a) (hc : ChP A' M' Lc' Lm' x (nsL (1 + 2 * x) nl).length (nsL (2 + 2 * x) nl).length) (e1 : P = some (A', Lc')) (e2 : Q = some (1, M', Lm')) : RlQ A0 M0 Lc Lm n le P Q := by
  have hx12 := hP.2.2.1.2.2.1
  refine ⟨A', M', Lc', Lm', true, e1, e2, ⟨fun p y u => ?_, fun p y u => ?_, ?_, ?_⟩, ?_, C, T, X, S, K, R, W, nl, ow, ct, sg, tu, ky, rd, wt, PR_ch hP hx (fun p y u1 u2 u3 => hA p y (by omega)) hA5 (fun p y u1 u2 u3 u4 => hM p y (by omega) u2) hC (fun p u => hL p (by omega)) ?_ hP.2.2.2.2.2.2.2.2.2 hc (fun z _ => ⟨rfl, rfl⟩), hl, hk⟩
  · rw [hA p y (by omega), fa p y (by omega)]
  · rw [hM p y (by omega) (by omega), fm p y (by omega) (by omega) (by omega)]
  · exact fun p u => hC p (by omega)
  · exact fun p u1 u2 => hL p (by omega)
  · rw [if_pos rfl, hA _ _ (by omega)]
    exact h12
  · exact NaR_f hP.2.2.2.2.2.2.2.2.1 (fun p y u => hA p y (by omega)) (fun p y u => hM p y (by omega) (by omega))
theorem wq_e3 {o : Option (Int32 × mwM × mwL)} {Q : Int32 × mwM × mwL → Prop} (h : wq o Q) : ∃ r A L, o = some (r, A, L) ∧ Q (r, A, L) := by
  obtain ⟨⟨r, A, L⟩, h1, h2⟩ := h
  exact ⟨r, A, L, h1, h2⟩
theorem st_of {fu x : Nat} {A : mwM} {L : mwL} : DX8_statesOf fu (sI x) A L = some (sI (1 + 2 * x), A, L) := by
  unfold DX8_statesOf
  rw [show (1 : Int32) + 2 * sI x = sI (1 + 2 * x) by rw [show (2 : Int32) * sI x = sI (2 * x) from sI_lml]; exact sI_lad]
theorem da_of {fu x : Nat} {A : mwM} {L : mwL} : DX8_dataOf fu (sI x) A L = some (sI (2 + 2 * x), A, L) := by
  unfold DX8_dataOf
  rw [show (2 : Int32) + 2 * sI x = sI (2 + 2 * x) by rw [show (2 : Int32) * sI x = sI (2 * x) from sI_lml]; exact sI_lad]
theorem ns_s {m : Nat} (hm : m < 2000000000) : ¬ sI m < 0 := by rw [show (0 : Int32) = sI 0 from rfl, sI_lt hm (by omega)]; omega
theorem ge_s {m : Nat} (hm : m < 2000000000) : (0 : Int32) ≤ sI m := by rw [show (0 : Int32) = sI 0 from rfl, sI_le (by omega) hm]; omega
theorem st_after {fu n le a b C T X S K R W : Nat} {A M : mwM} {Lc Lm : mwL} {tx : Nat → Nat} {nl : List Nm} {ow ct : Nat → Nat} {sg : Nat → Nat → Nat} {tu : Nat → Bool} {ky rd wt : Nat → Nat → Nat} (hfu : 6100 ≤ fu) (h : Ld A M n tx le a) (hP : PR A M Lc Lm n C T X S K R W nl ow ct sg tu ky rd wt) (h7 : A 1 7 = sI b) (h8 : M 732 8 = sI b) (hbn : b ≤ 6000) (hl : 12 * nl.length ≤ a) (hk : 15 * K ≤ a) : RlQ A M Lc Lm n le (DX8_readAfter fu A Lc) (DX19_addAfter fu M Lm) := by
  obtain ⟨⟨c1, c2, c3⟩, pT, pX, pB, pS, pK, pR, pW, pN, nB⟩ := id hP
  have ha := h.2.2.2.2.2.2.2.1
  have hX12 := pX.2.2.1
  obtain ⟨A1, M1, f1, f2, hr⟩ := st_told (fu := fu) (Lc := Lc) (Lm := Lm) (k := 2) hfu h pN (by omega)
  have fa1 : fWn A A1 := fun x y u => f1 x y (by omega)
  have fm1 : fG T S M M1 := fun x y u1 u2 u3 => f2 x y (by omega)
  unfold DX8_readAfter DX19_addAfter fX8_readAfter_b55 fX19_addAfter_b19 fX19_addAfter_b42
  rcases hr with ⟨q, q1, q2, q3, hk1, e1, e2, hL1, hH1⟩ | ⟨e1, e2, hX⟩
  rotate_left
  · rw [show DX8_toldName fu 0 2 A Lc = _ from e1, mb3_s, show DX19_named fu 3 M Lm = _ from e2, mb3_s, if_neg (show ¬ (0 : Int32) ≤ -1 by decide), if_pos (show (-1 : Int32) < 0 by decide)]
    unfold DX8_statesOf
    simp only [nf_told (Fx_n hX), nf_number (Fx_n hX), nf_end (Fx_n hX), mb3_s, mb2_s, if_neg (Fx_n hX)]
    exact rl_bad hP (by omega) (by omega) fa1 fm1 hX rfl rfl
  have hx : q.2.2.2.2 < X := by
    rcases (nB.2 q q1).2 q2 with g | g | g | g <;> omega
  rw [show DX8_toldName fu 0 2 A Lc = _ from e1, mb3_s, show DX19_named fu 3 M Lm = _ from e2, mb3_s, if_pos (ge_s (by omega)), st_of, mb3_s]
  generalize hx' : q.2.2.2.2 = x at *
  have N1 := NaR_f pN (A' := A1) (M' := M1) (fun x y u => fa1 x y (by omega)) (fun x y u => fm1 x y (by omega) (by omega) (by omega))
  obtain ⟨A2, M2, f3, f4, hr⟩ := st_stt (fu := fu) (Lc := Lc) (Lm := Lm) hfu hL1 N1 hx
  have fa2 : fWn A A2 := fun x y u => by rw [f3 x y (by omega), fa1 x y u]
  have fm2 : fG T S M M2 := fun x y u1 u2 u3 => by rw [f4 x y (by omega), fm1 x y u1 u2 u3]
  rcases hr with ⟨i, hi, hk2, e3, e4, hL2, hH2⟩ | ⟨e3, e4, hX⟩
  rotate_left
  · rw [e3, mb3_s, e4, mb3_s, if_pos (show (-1 : Int32) < 0 by decide)]
    simp only [nf_number (Fx_n hX), nf_end (Fx_n hX), mb3_s, mb2_s, if_neg (Fx_n hX)]
    exact rl_bad hP (by omega) (by omega) fa2 fm2 hX rfl rfl
  have hi200 := (N1.2.2.2.2 x hx).1.2.1
  rw [e3, mb3_s, e4, mb3_s, if_neg (ns_s (by omega))]
  obtain ⟨A3, M3, f5, f6, hr⟩ := st_number (fu := fu) (Lc := Lc) (Lm := Lm) (a1 := sI 1) (a2 := sI 20000) hfu hL2
  have fa3 : fWn A A3 := fun x y u => by rw [f5 x y (by omega), fa2 x y u]
  have fm3 : fG T S M M3 := fun x y u1 u2 u3 => by rw [f6 x y (by omega), fm2 x y u1 u2 u3]
  rcases hr with ⟨hk3, z1, z2, z3, e5, e6, e7, hL3, _⟩ | ⟨e5, e6, hX⟩
  rotate_left
  · rw [show DX8_number fu 1 20000 A2 Lc = _ from e5, mb3_s, show DX19_number fu 1 20000 M2 Lm = _ from e6, mb3_s, if_pos (show (0 : Int32) = 0 from rfl)]
    simp only [nf_end (Fx_n hX), mb3_s, mb2_s, if_neg (Fx_n hX)]
    exact rl_bad hP (by omega) (by omega) fa3 fm3 hX rfl rfl
  obtain ⟨l, z4, z5, z6⟩ := nu_nat (lo := 1) (hi := 20000) z1 z2 z3 (by omega) (by omega)
  rw [z4] at e5 e7
  rw [show DX8_number fu 1 20000 A2 Lc = _ from e5, mb3_s, show DX19_number fu 1 20000 M2 Lm = _ from e6, mb3_s, if_neg (show ¬ (1 : Int32) = 0 by decide)]
  obtain ⟨A4, M4, f7, f8, hr⟩ := st_eol (fu := fu) (Lc := Lc) (Lm := Lm) hfu hL3
  have fa4 : fWn A A4 := fun x y u => by rw [f7 x y (by omega), fa3 x y u]
  have fm4 : fG T S M M4 := fun x y u1 u2 u3 => by rw [f8 x y (by omega), fm3 x y u1 u2 u3]
  rcases hr with ⟨hk4, e8, e9, hL4⟩ | ⟨e8, e9, hX⟩
  rotate_left
  · rw [e8, mb2_s, if_neg (Fx_n hX), e9, mb3_s, if_pos (show (0 : Int32) = 0 from rfl)]
    exact rl_bad hP (by omega) (by omega) fa4 fm4 hX rfl rfl
  have l9 := hL4.2.2.2.2.2.2.2.2
  have hP4 := PR_f hP (A' := A4) (M' := M4) (fun a y u => fa4 a y (by omega)) (fun a y u1 u2 u3 => fm4 a y (by omega) u2 u3)
  have g7 : A4 1 7 = sI b := by rw [fa4 _ _ (by omega)]; exact h7
  have g8 : M4 732 8 = sI b := by rw [fm4 _ _ (by omega) (by omega) (by omega)]; exact h8
  have m13 : M4 732 13 = sI l := by rw [f8 _ _ (by omega)]; exact e7
  rw [e8, mb2_s, if_pos l9, mck_s (show x < 12 by omega) (by omega), sI_nn (by omega), e9, mb3_s, if_neg (show ¬ (1 : Int32) = 0 by decide), mck_s (show x < 12 by omega) (by omega), m13, sI_L (by omega)]
  obtain ⟨v1, v2, v3, v4, v5, c, va, D, xx, v6, v7, v8, v9, v10, v11, v12, v13⟩ := (hP4.2.2.1.2.2.2.1 x hx).2.2.2
  obtain ⟨rc, A5, Lc5, i1, i2⟩ := wq_e3 (c_setTicks (fu := fu) (k := 293 + 36 * x) (s := i + 1) (n := l) v6 v7 (by omega))
  obtain ⟨rm, M5, Lm5, j1, j2, j3, j4⟩ := wq_e3 (m_after (fu := fu) (q := 964 + 53 * x) (s := i + 1) (n := l) v6 v8 v9 (by omega) (by omega))
  dsimp only at i2 j2 j3 j4
  rw [i1, mb3_s, j1, mb3_s]
  by_cases cc : 2 ≤ c 2 (i + 1)
  · rw [if_pos cc] at i2 j4
    obtain ⟨rfl, rfl, rfl⟩ : rc = -2 ∧ A5 = A4 ∧ Lc5 = Lc := by
      injection i2 with x1 x2
      injection x2 with x2 x3
      exact ⟨x1, x2, x3⟩
    obtain ⟨rfl, j5, j6⟩ := j4
    have l8 : M5 732 8 = sI b := by rw [j2 _ _ (by omega)]; exact g8
    rw [c_heed l9 g7 (by decide), mb2_s, m_fits l8 (by decide), mb3_s]
    exact rl_heed (x := x) hP4 (by omega) (by omega) fa4 fm4 hx hbn (fun p y u => j2 p y (by omega)) (fun p u => j3 p (by omega)) ⟨v1, v2, by rw [j2 _ _ (by omega)]; exact v3, by rw [j2 _ _ (by omega)]; exact v4, by rw [j3 _ (by omega)]; exact v5, c, va, D, xx, v6, v7, j5, j6, v10, v11, by rw [j2 _ _ (by omega)]; exact v12, v13⟩ rfl rfl
  · rw [if_neg cc] at i2 j4
    obtain ⟨rfl, rfl, i3, i4⟩ := i2
    obtain ⟨rfl, j5, j6⟩ := j4
    rw [c_heed0 (by omega), mb2_s, m_fits0 (by omega), mb3_s]
    exact rl_chart (x := x) hP4 (by omega) (by omega) fa4 fm4 hx l9 (fun p y u => i4 p y (by omega)) (i4 _ _ (by omega)) (fun p y u _ => j2 p y (by omega)) (fun _ _ => rfl) (fun p u => j3 p (by omega)) ⟨by rw [i4 _ _ (by omega)]; exact v1, by rw [i4 _ _ (by omega)]; exact v2, by rw [j2 _ _ (by omega)]; exact v3, by rw [j2 _ _ (by omega)]; exact v4, by rw [j3 _ (by omega)]; exact v5, ctk c (i + 1) l, va, D, xx, Cv_tk v6 (by omega), i3, j5, j6, v10, v11, by rw [j2 _ _ (by omega)]; exact v12, v13⟩ rfl rfl
