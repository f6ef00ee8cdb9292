/-! CALLS: active, value, chart -/
def CaW {α : Type} (mp : Nat → Nat) (Sb : Nat → Nat) (P : Option ((Nat × α) × mwM × mwL)) (Q : Option (α × mwM × mwL)) : Prop := ∃ (w : Nat) (r : α) (A' M' : mwM) (Lc' Lm' : mwL), P = some ((w, r), A', Lc') ∧ Q = some (r, M', Lm') ∧ M' 732 0 = sI (mp w) ∧ HS A' M' Lc' Lm' Sb
theorem c_hasCh {fu : Nat} {a1 : Int32} {A : mwM} {L : mwL} : DX11_hasChart fu a1 A L = some ((if A 0 5 = 0 then 0 else if a1 < 0 then 0 else if A 3 14 ≤ a1 then 0 else 1), A, L) := by
  unfold DX11_hasChart fX11_hasChart_b26 fX11_hasChart_b27
  rw [mzz_0, mzz_1]
  by_cases q1 : A 0 5 = 0
  · rw [if_pos q1, if_pos q1]
  rw [if_neg q1, if_neg q1]
  by_cases q2 : a1 < 0
  · rw [if_pos q2, if_pos q2]
  rw [if_neg q2, if_neg q2]
  by_cases q3 : A 3 14 ≤ a1
  · rw [if_pos q3, if_pos q3]
  · rw [if_neg q3, if_neg q3]
theorem m_noCh {fu : Nat} {a1 : Int32} {M : mwM} {L : mwL} : DX19_noChart fu a1 M L = some ((if M 732 4 = 0 then 1 else if a1 < 0 then 1 else if a1 < M 732 33 then 0 else 1), M, L) := by
  unfold DX19_noChart fX19_noChart_b19 fX19_noChart_b24
  rw [mzz_1, mzz_0]
  by_cases q1 : M 732 4 = 0
  · rw [if_pos q1, if_pos q1]
  rw [if_neg q1, if_neg q1]
  by_cases q2 : a1 < 0
  · rw [if_pos q2, if_pos q2]
  rw [if_neg q2, if_neg q2]
  by_cases q3 : a1 < M 732 33
  · rw [if_pos q3, if_pos q3]
  · rw [if_neg q3, if_neg q3]
/-- a chart that is there, or not, on both sides -/
theorem st_has {fu : Nat} {a1 : Int32} {A M : mwM} {Lc Lm : mwL} {Sb : Nat → Nat} (h : HS A M Lc Lm Sb) : (DX11_hasChart fu a1 A Lc = some (0, A, Lc) ∧ DX19_noChart fu a1 M Lm = some (1, M, Lm)) ∨ ∃ x X t, a1 = sI x ∧ x < X ∧ X ≤ 12 ∧ M 732 33 = sI X ∧ M 732 4 = 1 ∧ DX11_hasChart fu a1 A Lc = some (1, A, Lc) ∧ DX19_noChart fu a1 M Lm = some (0, M, Lm) ∧ CxR A (mset M 732 0 0) Lc Lm t x ∧ QdR A (mset M 732 0 0) Lc Lm x := by
  rw [c_hasCh, m_noCh]
  rcases h.2.2.2.2 with ⟨c1, c2⟩ | ⟨c1, c2, C, S, F, W, R, X, T, t, E, d, tu, g, own, bd, si, p, o, e, ec, tc, fl, c3, c4, c5⟩
  · exact Or.inl ⟨by rw [if_pos c1], by rw [if_pos c2]⟩
  rw [if_neg (show ¬ A 0 5 = 0 by rw [c1]; decide), if_neg (show ¬ M 732 4 = 0 by rw [c2]; decide)]
  by_cases c0 : a1 < 0
  · exact Or.inl ⟨by rw [if_pos c0], by rw [if_pos c0]⟩
  rw [if_neg c0, if_neg c0]
  have c3' := CAR_f (M' := mset M 732 0 0) c3 (fun _ _ _ => rfl) (fun a y u => mset_n (by omega))
  obtain ⟨hTk, hTr, hp, hBu, hSl, hCo, hCx, _⟩ := c3'
  have hX := hTk.2.1.1
  have h33 := hTk.2.1.2.1
  rw [mset_n (by omega)] at h33
  rw [c4, h33]
  by_cases cS : a1 < sI X
  rotate_left
  · exact Or.inl ⟨by rw [if_pos (Int32.not_lt.mp cS)], by rw [if_neg cS]⟩
  obtain ⟨x, hx, rfl⟩ := nat_lt' c0 cS (by omega)
  exact Or.inr ⟨x, X, t, rfl, hx, hX, rfl, c2, by rw [if_neg (show ¬ sI X ≤ sI x from fun z => (Int32.not_lt.mpr z) cS)], by rw [if_pos cS], hCx x hx, hTk.2.2.2.1 x hx⟩
theorem HS_q {A M : mwM} {Lc Lm : mwL} {Sb : Nat → Nat} {x : Nat} (hx : x < 12) (h : HS A M Lc Lm Sb) : HS A (mset (mset M 732 0 0) (964 + 53 * x) 0 0) Lc Lm Sb := HS_e h (fun _ _ _ _ => rfl) (fun a y u1 u2 u3 u4 u5 u6 u7 u8 => by rw [mset_n (by omega), mset_n (by omega)]) (fun _ _ => rfl) (fun _ _ _ => rfl)
theorem st_lactive {fu : Nat} {a1 a2 : Int32} {A M : mwM} {Lc Lm : mwL} {Sb : Nat → Nat} (hfu : 500 ≤ fu) (h54 : H54 M) (h : HS A M Lc Lm Sb) : CaQ mp32 Sb (DX11_active fu a1 a2 A Lc) (DX19_active fu a1 a2 M Lm) := by
  unfold DX11_active DX19_active fX11_active_b28 fX11_active_b71 fX19_active_b23 fX19_active_b28 fX19_active_b52
  have bad : CaQ mp32 Sb (some ((3, 0), A, Lc)) (some (0, mset M 732 0 1, Lm)) := ⟨3, 0, A, _, Lc, Lm, rfl, rfl, mset_s, HS_0 h⟩
  have n10 : ¬ (1 : Int32) = 0 := by decide
  rcases st_has (fu := fu) (a1 := a1) h with ⟨e1, e2⟩ | ⟨x, X, t, rfl, hx, hX, h33, h4, e1, e2, hC, hQ⟩
  · rw [e1, e2, mb3_s, mb3_s, if_pos (show (0 : Int32) = 0 from rfl), if_neg n10, mlet_e, mset_s, if_neg (show ¬ (1 : Int32) ≤ 0 by decide)]
    exact bad
  rw [e1, e2, mb3_s, mb3_s, if_pos (show (0 : Int32) = 0 from rfl), if_neg n10]
  simp only [mlet_e, mset_s]
  rw [if_neg (show ¬ (1 : Int32) ≤ 0 by decide), if_pos (show (0 : Int32) ≤ 0 by decide)]
  by_cases d0 : a2 < 0
  · rw [if_pos d0, if_pos d0]
    exact bad
  rw [if_neg d0, if_neg d0]
  have m12 : ∀ {β : Type} {z : Option β}, mck (sI x) 12 z = z := mck_s (show x < 12 by omega) (by omega)
  obtain ⟨va, ⟨w, p2⟩, nw, hW, ⟨hRc, _⟩, hRm, _⟩ := hC
  have hv : Cv w.1.1 := hW.1
  have r7 : A (293 + 36 * x) 7 = sI (w.1.1 0 0) := hRc.1.1
  have r16 : A (293 + 36 * x) 16 = bI (w.1.2.1 6 0) := hRc.2.2.2.1.2.2.2.2.1
  have m2 : mset M 732 0 0 (964 + 53 * x) 2 = sI (w.1.1 0 0) := hRm.1.1
  rw [mset_n (by omega)] at m2
  have hN : w.1.1 0 0 ≤ 200 := hv.1.1
  rw [m12, m12, m12, m12, m12, sI_nn (by omega), Nat.add_zero, r7, r16, h54 h4 X x h33 hX hx, m2]
  by_cases dS : a2 ≤ sI (w.1.1 0 0)
  rotate_left
  · rw [if_neg dS, if_neg dS]
    exact bad
  rw [if_pos dS, if_pos dS]
  obtain ⟨s, hs, rfl⟩ := nat_le (Int32.not_lt.mp d0) dS (by omega)
  rw [m_active (by omega) hv hRm hs, mb3_s, c_innermost (by omega) hv hRc hs, mb3_s]
  cases q : w.1.2.1 6 0 with
  | false =>
    rw [if_pos (show bI false = 0 from rfl), if_neg (by decide)]
    exact ⟨0, -3, A, _, Lc, Lm, rfl, rfl, by rw [mset_n (by omega), mset_s]; rfl, HS_q (by omega) h⟩
  | true =>
    rw [if_neg (show ¬ bI true = 0 by decide), if_pos rfl]
    exact ⟨0, _, A, _, Lc, Lm, rfl, rfl, by rw [mset_n (by omega), mset_s]; rfl, HS_q (by omega) h⟩
theorem st_lvalue {fu : Nat} {a1 a2 : Int32} {A M : mwM} {Lc Lm : mwL} {Sb : Nat → Nat} (h : HS A M Lc Lm Sb) : CaW mp32 Sb (DX11_value fu a1 a2 A Lc) (DX19_value fu a1 a2 M Lm) := by
  unfold DX11_value DX19_value fX11_value_b18 fX19_value_b19 fX19_value_b24 fX19_value_b48
  have bad : CaW mp32 Sb (some ((3, (0 : Int64)), A, Lc)) (some (0, mset M 732 0 1, Lm)) := ⟨3, 0, A, _, Lc, Lm, rfl, rfl, mset_s, HS_0 h⟩
  have n10 : ¬ (1 : Int32) = 0 := by decide
  rcases st_has (fu := fu) (a1 := a1) h with ⟨e1, e2⟩ | ⟨x, X, t, rfl, hx, hX, h33, h4, e1, e2, hC, hQ⟩
  · rw [e1, e2, mb3_s, mb3_s, if_pos (show (0 : Int32) = 0 from rfl), if_neg n10, mlet_e, mset_s, if_neg (show ¬ (1 : Int32) ≤ 0 by decide)]
    exact bad
  rw [e1, e2, mb3_s, mb3_s, if_pos (show (0 : Int32) = 0 from rfl), if_neg n10]
  simp only [mlet_e, mset_s]
  rw [if_neg (show ¬ (1 : Int32) ≤ 0 by decide), if_pos (show (0 : Int32) ≤ 0 by decide)]
  by_cases d0 : a2 < 0
  · rw [if_pos d0, if_pos d0]
    exact bad
  rw [if_neg d0, if_neg d0]
  have dd : a2 ≤ 31 ↔ a2 < 32 := by
    rw [Int32.le_iff_toInt_le, Int32.lt_iff_toInt_lt]
    show a2.toInt ≤ 31 ↔ a2.toInt < 32
    omega
  by_cases dS : a2 < 32
  rotate_left
  · rw [if_neg dS, if_neg (fun z => dS (dd.mp z))]
    exact bad
  rw [if_pos dS, if_pos (dd.mpr dS)]
  obtain ⟨s, hs, rfl⟩ := nat_lt' (m := 32) d0 dS (by omega)
  have m12 : ∀ {β : Type} {z : Option β}, mck (sI x) 12 z = z := mck_s (show x < 12 by omega) (by omega)
  obtain ⟨_, _, _, _, _, q⟩ := hQ
  unfold DX13_value fX13_value_b15 fX13_value_b25
  rw [m12, m12, mlet_e, if_neg d0, if_pos (dd.mpr dS), mck_s hs (by omega), mck_s hs (by omega), mb3_s, sI_nn (by omega), sI_nn (by omega), q]
  exact ⟨0, _, A, _, Lc, Lm, rfl, rfl, by rw [mset_n (by omega), mset_s]; rfl, HS_q (by omega) h⟩
theorem st_lchart {fu : Nat} {a1 a2 : Int32} {A M : mwM} {Lc Lm : mwL} {Sb : Nat → Nat} (hfu : 500 ≤ fu) (h : HS A M Lc Lm Sb) : CaQ mp32 Sb (DX11_chart fu a1 a2 A Lc) (DX19_chart fu a1 a2 M Lm) := by
  unfold DX11_chart DX19_chart fX11_chart_b28 fX19_chart_b23 fX19_chart_b28 fX19_chart_b81
  have bad : CaQ mp32 Sb (some ((3, 0), A, Lc)) (some (0, mset M 732 0 1, Lm)) := ⟨3, 0, A, _, Lc, Lm, rfl, rfl, mset_s, HS_0 h⟩
  have bad2 : CaQ mp32 Sb (some ((2, 0), A, Lc)) (some (0, mset M 732 0 2, Lm)) := ⟨2, 0, A, _, Lc, Lm, rfl, rfl, mset_s, HS_0 h⟩
  have n10 : ¬ (1 : Int32) = 0 := by decide
  rcases st_has (fu := fu) (a1 := a1) h with ⟨e1, e2⟩ | ⟨x, X, t, rfl, hx, hX, h33, h4, e1, e2, hC, hQ⟩
  · rw [e1, e2, mb3_s, mb3_s, if_pos (show (0 : Int32) = 0 from rfl), if_neg n10, mlet_e, mset_s, if_neg (show ¬ (1 : Int32) ≤ 0 by decide)]
    exact bad
  rw [e1, e2, mb3_s, mb3_s, if_pos (show (0 : Int32) = 0 from rfl), if_neg n10]
  simp only [mlet_e, mset_s]
  rw [if_neg (show ¬ (2 : Int32) ≤ 0 by decide), if_pos (show (0 : Int32) ≤ 0 by decide)]
  by_cases d0 : a2 < 0
  · rw [if_pos d0, if_pos d0]
    exact bad2
  rw [if_neg d0, if_neg d0]
  by_cases dS : a2 ≤ 7
  rotate_left
  · rw [if_neg dS, if_neg dS]
    exact bad2
  rw [if_pos dS, if_pos dS]
  obtain ⟨i, hi, rfl⟩ := nat_le (m := 7) (Int32.not_lt.mp d0) dS (by omega)
  have m12 : ∀ {β : Type} {z : Option β}, mck (sI x) 12 z = z := mck_s (show x < 12 by omega) (by omega)
  obtain ⟨va, ⟨w, p2⟩, nw, hW, ⟨hRc, _⟩, hRm, r13, r751, _⟩ := hC
  have hv : Cv w.1.1 := hW.1
  have r14 : A (293 + 36 * x) 14 = w.2 0 := hRc.2.2.2.1.2.2.1
  have m29 : mset M 732 0 0 (964 + 53 * x) 29 = w.2 0 := hRm.2.2.2.1.2.2.1
  obtain ⟨qn, _, q11, q752, _⟩ := hQ
  dsimp only at r13 r751
  rw [m12, m12, m12, m12, m12, m12, m12, m12, sI_nn (by omega), Nat.add_zero]
  have okq : ∀ r : Int32, CaQ mp32 Sb (some ((0, r), A, Lc)) (some (r, mset (mset M 732 0 0) (964 + 53 * x) 0 0, Lm)) := fun r => ⟨0, r, A, _, Lc, Lm, rfl, rfl, by rw [mset_n (by omega), mset_s]; rfl, HS_q (by omega) h⟩
  have ok : ∀ r : Int32, CaQ mp32 Sb (some ((0, r), A, Lc)) (some (r, mset M 732 0 0, Lm)) := fun r => ⟨0, r, A, _, Lc, Lm, rfl, rfl, mset_s, HS_0 h⟩
  by_cases h3 : 3 ≤ i
  · have e3 : sI i - 3 = sI (i - 3) := sI_sub (b := 3) h3
    rw [if_neg (show ¬ sI i = (0 : Int32) by rw [sI_eql (by omega) (by decide)]; omega), if_neg (show ¬ sI i = (1 : Int32) by rw [sI_eql (by omega) (by decide)]; omega), if_neg (show ¬ sI i = (2 : Int32) by rw [sI_eql (by omega) (by decide)]; omega), if_pos (show (3 : Int32) ≤ sI i by rw [show (3 : Int32) = sI 3 from rfl, sI_le (by omega) (by omega)]; exact h3), e3, c_covered (by omega) hv hRc (by omega), mb3_s, m_covered (by omega) hv hRm (by omega), mb3_s]
    exact okq _
  have : i = 0 ∨ i = 1 ∨ i = 2 := by omega
  rcases this with rfl | rfl | rfl
  · rw [if_pos (show sI 0 = (0 : Int32) from rfl), if_neg (show ¬ (3 : Int32) ≤ sI 0 by decide), if_pos (show sI 0 = (0 : Int32) from rfl), r14]
    unfold DX13_dropped
    rw [mlet_e, mb3_s, mset_n (by omega), m29]
    exact okq _
  · rw [if_neg (show ¬ sI 1 = (0 : Int32) by decide), if_pos (show sI 1 = (1 : Int32) from rfl), if_neg (show ¬ (3 : Int32) ≤ sI 1 by decide), if_neg (show ¬ sI 1 = (0 : Int32) by decide), if_pos (show sI 1 = (1 : Int32) from rfl), q11, q752]
    exact ok _
  · rw [if_neg (show ¬ sI 2 = (0 : Int32) by decide), if_neg (show ¬ sI 2 = (1 : Int32) by decide), if_pos (show sI 2 = (2 : Int32) from rfl), if_neg (show ¬ (3 : Int32) ≤ sI 2 by decide), if_neg (show ¬ sI 2 = (0 : Int32) by decide), if_neg (show ¬ sI 2 = (1 : Int32) by decide), r13, r751]
    exact ok _
