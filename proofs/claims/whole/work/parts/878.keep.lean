/-! READING: a name is kept; the line of a controller -/
theorem c_keep {fu σ w s k v : Nat} {A : mwM} {L : mwL} {nl : List Nm} (hN : NmC A nl) (h12 : A 1 12 = 0) (h10 : A 1 10 = sI w) (h11 : A 1 11 = sI s) (hl : nl.length < 600) : ∃ A', DX8_keepName fu (sI σ) (sI k) (sI v) A L = some (A', L) ∧ NmC A' (nl ++ [(σ, w, s, k, v)]) ∧ ∀ a y, ¬ (a = 1 ∧ y = 3) → ¬ (726 ≤ a ∧ a ≤ 730) → A' a y = A a y := by
  obtain ⟨n1, n2, n3⟩ := hN
  refine ⟨mset (mset (mset (mset (mset (mset A 726 nl.length (sI σ)) 727 nl.length (sI w)) 728 nl.length (sI s)) 729 nl.length (sI k)) 730 nl.length (sI v)) 1 3 (sI (nl.length + 1)), ?_, ⟨?_, ?_, ?_⟩, ?_⟩
  · unfold DX8_keepName
    rw [if_pos h12, n1, if_pos (show sI nl.length < 600 by rw [show (600 : Int32) = sI 600 from rfl, sI_lt (by omega) (by omega)]; exact hl), mck_s hl (by omega), mlet_e, sI_nn (by omega)]
    simp (disch := omega) only [mset_n, n1, mck_s, sI_nn, mlet_e, h10, h11, sI_1]
  · rw [mset_s, List.length_append]
    rfl
  · rw [List.length_append]
    show nl.length + 1 ≤ 600
    omega
  · intro i hi
    rw [List.length_append] at hi
    have hi' : i < nl.length + 1 := hi
    by_cases c : i = nl.length
    · subst c
      have e : (nl ++ [(σ, w, s, k, v)])[nl.length]'(by rw [List.length_append]; exact hi) = (σ, w, s, k, v) := by simp
      rw [e]
      dsimp only
      simp (disch := omega) only [mset_n, mset_s, mset_s]
      exact ⟨trivial, trivial, trivial, trivial, trivial⟩
    · have hi2 : i < nl.length := by omega
      have e : (nl ++ [(σ, w, s, k, v)])[i]'(by rw [List.length_append]; exact hi) = nl[i] := List.getElem_append_left hi2
      rw [e]
      obtain ⟨a1, a2, a3, a4, a5⟩ := n3 i hi2
      simp (disch := omega) only [mset_n, a1, a2, a3, a4, a5]
      exact ⟨trivial, trivial, trivial, trivial, trivial⟩
  · intro a y u1 u2
    simp (disch := omega) only [mset_n]
theorem m_addName {fu σ w s k v : Nat} {M : mwM} {L : mwL} {l : List Nm} (hN : NmM M l) (hl : l.length < 70) : ∃ M', DX19_addName fu (sI w) (sI s) (sI (k + 1)) (sI v) M L = some (M', L) ∧ NmM M' (l ++ [(σ, w, s, k, v)]) ∧ ∀ a y, ¬ (a = 732 ∧ y = 14) → ¬ (734 ≤ a ∧ a ≤ 737) → M' a y = M a y := by
  obtain ⟨n1, n2, n3⟩ := hN
  refine ⟨mset (mset (mset (mset (mset M 734 l.length (sI w)) 735 l.length (sI s)) 736 l.length (sI (k + 1))) 737 l.length (sI v)) 732 14 (sI (l.length + 1)), ?_, ⟨?_, ?_, ?_⟩, ?_⟩
  · unfold DX19_addName
    simp (disch := omega) only [mset_n, n1, mck_s, sI_nn, mlet_e, sI_1]
  · rw [mset_s, List.length_append]
    rfl
  · rw [List.length_append]
    show l.length + 1 ≤ 70
    omega
  · intro i hi
    rw [List.length_append] at hi
    have hi' : i < l.length + 1 := hi
    by_cases c : i = l.length
    · subst c
      have e : (l ++ [(σ, w, s, k, v)])[l.length]'(by rw [List.length_append]; exact hi) = (σ, w, s, k, v) := by simp
      rw [e]
      dsimp only
      simp (disch := omega) only [mset_n, mset_s, mset_s]
      exact ⟨trivial, trivial, trivial, trivial⟩
    · have hi2 : i < l.length := by omega
      have e : (l ++ [(σ, w, s, k, v)])[i]'(by rw [List.length_append]; exact hi) = l[i] := List.getElem_append_left hi2
      rw [e]
      obtain ⟨a1, a2, a3, a4⟩ := n3 i hi2
      simp (disch := omega) only [mset_n, a1, a2, a3, a4]
      exact ⟨trivial, trivial, trivial, trivial⟩
  · intro a y u1 u2
    simp (disch := omega) only [mset_n]
theorem NmO_a {n : Nat} {nl : List Nm} {q : Nm} (h : NmO n nl) (hq : q.1 < 100 ∧ q.2.1 + q.2.2.1 ≤ n ∧ 1 ≤ q.2.2.1 ∧ q.2.2.2.1 < 10 ∧ q.2.2.2.2 < 1000) : NmO n (nl ++ [q]) := by
  intro z hz
  rcases List.mem_append.mp hz with hz | hz
  · exact h z hz
  · rw [List.mem_singleton.mp hz]
    exact hq
theorem st_keep {fu n X w s k v : Nat} {A M : mwM} {Lc Lm : mwL} {nl : List Nm} (hN : NaR A M n X nl) (h12 : A 1 12 = 0) (h10 : A 1 10 = sI w) (h11 : A 1 11 = sI s) (hw : w + s ≤ n) (hs : 1 ≤ s) (hl : nl.length < 600) (h0 : (nsL 0 nl).length < 70) (hk : k < 9) (hv : v < 1000) : ∃ A' M', DX8_keepName fu 0 (sI k) (sI v) A Lc = some (A', Lc) ∧ DX19_addName fu (sI w) (sI s) (sI (k + 1)) (sI v) M Lm = some (M', Lm) ∧ NaR A' M' n X (nl ++ [(0, w, s, k, v)]) ∧ (∀ a y, ¬ (a = 1 ∧ y = 3) → ¬ (726 ≤ a ∧ a ≤ 730) → A' a y = A a y) ∧ ∀ a y, ¬ (a = 732 ∧ y = 14) → ¬ (734 ≤ a ∧ a ≤ 737) → M' a y = M a y := by
  obtain ⟨nC, nO, nM, nX, nS⟩ := hN
  obtain ⟨A', e1, e2, e3⟩ := c_keep (fu := fu) (σ := 0) (k := k) (v := v) (L := Lc) nC h12 h10 h11 hl
  obtain ⟨M', g1, g2, g3⟩ := m_addName (fu := fu) (σ := 0) (w := w) (s := s) (k := k) (v := v) (L := Lm) nM h0
  refine ⟨A', M', e1, g1, ⟨e2, NmO_a nO ⟨by show 0 < 100; omega, hw, hs, by show k < 10; omega, hv⟩, ?_, nX, fun x hx => ?_⟩, e3, g3⟩
  · rw [ns_app, if_pos rfl]
    exact g2
  · rw [ns_app, if_neg (show ¬ 0 = 1 + 2 * x by omega), ns_app, if_neg (show ¬ 0 = 2 + 2 * x by omega)]
    obtain ⟨⟨s1, s2, s3⟩, ⟨d1, d2, d3⟩⟩ := nS x hx
    refine ⟨⟨by rw [g3 _ _ (by omega) (by omega)]; exact s1, s2, fun j hj => ?_⟩, ⟨by rw [g3 _ _ (by omega) (by omega)]; exact d1, d2, fun j hj => ?_⟩⟩
    · rw [g3 _ _ (by omega) (by omega), g3 _ _ (by omega) (by omega)]
      exact s3 j hj
    · rw [g3 _ _ (by omega) (by omega), g3 _ _ (by omega) (by omega)]
      exact d3 j hj
theorem NmB_0 {C T X S C' T' X' S' : Nat} {nl : List Nm} {q : Nm} (h : NmB C T X S nl) (q0 : q.1 = 0) (hC : C ≤ C') (hT : T ≤ T') (hX : X ≤ X') (hS : S ≤ S') (hs : C' + T' + X' + S' = C + T + X + S + 1) (hq : (q.2.2.2.1 = 0 ∧ q.2.2.2.2 < C') ∨ (q.2.2.2.1 = 1 ∧ q.2.2.2.2 < T') ∨ (q.2.2.2.1 = 2 ∧ q.2.2.2.2 < X') ∨ (q.2.2.2.1 = 3 ∧ q.2.2.2.2 < S')) : NmB C' T' X' S' (nl ++ [q]) := by
  obtain ⟨h1, h2⟩ := h
  refine ⟨?_, fun z hz => ?_⟩
  · rw [ns_app, if_pos q0, List.length_append, h1]
    show C + T + X + S + 1 = _
    omega
  · rcases List.mem_append.mp hz with hz | hz
    · obtain ⟨g1, g2⟩ := h2 z hz
      refine ⟨by omega, fun z0 => ?_⟩
      rcases g2 z0 with g | g | g | g
      · exact Or.inl ⟨g.1, by omega⟩
      · exact Or.inr (Or.inl ⟨g.1, by omega⟩)
      · exact Or.inr (Or.inr (Or.inl ⟨g.1, by omega⟩))
      · exact Or.inr (Or.inr (Or.inr ⟨g.1, by omega⟩))
    · rw [List.mem_singleton.mp hz]
      exact ⟨by omega, fun _ => hq⟩
theorem PrT_m {A M : mwM} {T C C' X X' : Nat} {ow : Nat → Nat} (h : PrT A M T C X ow) (hC : C ≤ C') (hX : X ≤ X') : PrT A M T C' X' ow := by
  obtain ⟨h1, h2, h3, h4, h5⟩ := h
  refine ⟨h1, h2, h3, fun i hi => ?_, h5⟩
  obtain ⟨g1, g2, g3, g4, g5, g6, g7⟩ := h4 i hi
  refine ⟨g1, g2, by omega, g4, g5, g6, ?_⟩
  rcases g7 with g | ⟨x, x1, x2⟩
  · exact Or.inl g
  · exact Or.inr ⟨x, by omega, x2⟩
theorem PrX_n {A M : mwM} {Lc Lm : mwL} {X T : Nat} {ow ct : Nat → Nat} {nl : List Nm} {q : Nm} (h : PrX A M Lc Lm X T ow ct nl) (hq : q.1 = 0) : PrX A M Lc Lm X T ow ct (nl ++ [q]) := by
  obtain ⟨h1, h2, h3, h4, h5⟩ := h
  refine ⟨h1, h2, h3, fun x hx => ?_, h5⟩
  rw [ns_app, if_neg (by omega), ns_app, if_neg (by omega)]
  exact h4 x hx
/-- what may change while a line is read -/
abbrev fG (T S : Nat) (M M' : mwM) : Prop := ∀ x y, ¬ (x = 732 ∧ (y = 6 ∨ (9 ≤ y ∧ y ≤ 13))) → ¬ (743 ≤ x ∧ x ≤ 746 ∧ y = T) → ¬ ((x = 761 ∨ x = 764 ∨ x = 765) ∧ y = S) → M' x y = M x y
theorem rl_bad {A A' M M' : mwM} {Lc Lm : mwL} {n le C T X S K R W : Nat} {nl : List Nm} {ow ct : Nat → Nat} {sg : Nat → Nat → Nat} {tu : Nat → Bool} {ky rd wt : Nat → Nat → Nat} {P : Option (mwM × mwL)} {Q : Option (Int32 × mwM × mwL)} (hP : PR A M Lc Lm n C T X S K R W nl ow ct sg tu ky rd wt) (hl : 12 * nl.length ≤ le + 1) (hk : 15 * K ≤ le + 1) (hA : fWn A A') (hM : fG T S M M') (hX : Fx A' M') (e1 : P = some (A', Lc)) (e2 : Q = some (0, M', Lm)) : RlQ A M Lc Lm n le P Q := by
  refine ⟨A', M', Lc, Lm, false, e1, e2, ⟨fun p y u => hA p y (by omega), fun p y u => hM p y (by omega) (by omega) (by omega), fun _ _ => rfl, fun _ _ _ => rfl⟩, ?_, C, T, X, S, K, R, W, nl, ow, ct, sg, tu, ky, rd, wt, PR_f hP (fun a y u => hA a y (by omega)) (fun a y u1 u2 u3 => hM a y (by omega) u2 u3), hl, hk⟩
  rw [if_neg (by decide)]
  exact hX
theorem st_ctl {fu n le a C T X S K R W : Nat} {A M : mwM} {Lc Lm : mwL} {tx : Nat → Nat} {nl : List Nm} {ow ct : Nat → Nat} {sg : Nat → Nat → Nat} {tu : Nat → Bool} {ky rd wt : Nat → Nat → Nat} (hfu : 6100 ≤ fu) (h : Ld A M n tx le a) (hP : PR A M Lc Lm n C T X S K R W nl ow ct sg tu ky rd wt) (hb : a < le → tx a = 32) (hl : 12 * nl.length + 10 ≤ a) (hk : 15 * K ≤ a) : RlQ A M Lc Lm n le (DX8_readController fu A Lc) (DX19_addController fu M Lm) := by
  obtain ⟨⟨c1, c2, c3⟩, pT, pX, pB, pS, pK, pR, pW, pN, nB⟩ := id hP
  have ha := h.2.2.2.2.2.2.2.1
  have hle := h.2.2.2.2.1
  have hn := h.1.2.1
  obtain ⟨A1, M1, f1, f2, hr⟩ := st_newName (fu := fu) (Lc := Lc) (Lm := Lm) (had := C) (most := 6) hfu h pN (by omega) (by omega)
  unfold DX8_readController DX19_addController
  rw [c1, c2]
  rcases hr with ⟨hc, hk1, e1, e2, hL, hH, w10, w11⟩ | ⟨e1, e2, hX⟩
  · obtain ⟨k1, k2, k3⟩ := nw_2 ha hb hk1
    obtain ⟨w8, w9, m9, m10, hlt⟩ := id hH
    rw [show DX8_newName fu 0 (sI C) 6 A Lc = _ from e1, mb2_s, show DX19_newName fu (sI C) 6 M Lm = _ from e2, mb3_s, if_neg (show ¬ (1 : Int32) = 0 by decide), mlet_e, mlet_e, m9, m10, sI_sub (by omega)]
    obtain ⟨A2, M2, f3, f4, hr2⟩ := st_eol (fu := fu) (Lc := Lc) (Lm := Lm) hfu hL
    have fa : fWn A A2 := fun x y u => by rw [f3 x y (by omega), f1 x y u]
    have fm : fG T S M M2 := fun x y u1 u2 u3 => by rw [f4 x y (by omega), f2 x y (by omega)]
    rcases hr2 with ⟨hk2, e3, e4, hL2⟩ | ⟨e3, e4, hX⟩
    · have l9 := hL2.2.2.2.2.2.2.2.2
      have hP2 := PR_f hP (A' := A2) (M' := M2) (fun a y u => fa a y (by omega)) (fun a y u1 u2 u3 => fm a y (by omega) u2 u3)
      obtain ⟨⟨c1', c2', c3'⟩, pT', pX', pB', pS', pK', pR', pW', pN', nB'⟩ := hP2
      have nl0 := nB.1
      obtain ⟨A3, M3, g1, g2, g3, g4, g5⟩ := st_keep (fu := fu) (w := nwB tx le a) (s := nwE tx le a - nwB tx le a) (k := 0) (v := C) (Lc := Lc) (Lm := Lm) pN' l9 (by rw [f3 _ _ (by omega)]; exact w10) (by rw [f3 _ _ (by omega)]; exact w11) (by omega) (by omega) (by omega) (by have := pT.2.2.1; have := pX.2.2.1; have := pS.2.2.1; omega) (by omega) (by omega)
      rw [e3, mb2_s, if_pos l9, c1', show DX8_keepName fu 0 0 (sI C) A2 Lc = _ from g1, mb2_s, mlet_e, e4, mb3_s, if_neg (show ¬ (1 : Int32) = 0 by decide), c2', show DX19_addName fu (sI (nwB tx le a)) (sI (nwE tx le a - nwB tx le a)) 1 (sI C) M2 Lm = _ from g2, mb2_s, mlet_e, g4 _ _ (by omega) (by omega), c1', g5 _ _ (by omega) (by omega), c2', sI_1]
      have hA4 : ∀ x y, ¬ (x = 3 ∧ y = 13) → ¬ (x = 1 ∧ y = 3) → ¬ (726 ≤ x ∧ x ≤ 730) → mset A3 3 13 (sI (C + 1)) x y = A2 x y := fun x y u1 u2 u3 => by rw [mset_n (by omega), g4 x y u2 u3]
      have hM4 : ∀ x y, ¬ (x = 732 ∧ y = 19) → ¬ (x = 732 ∧ y = 14) → ¬ (734 ≤ x ∧ x ≤ 737) → mset M3 732 19 (sI (C + 1)) x y = M2 x y := fun x y u1 u2 u3 => by rw [mset_n (by omega), g5 x y u2 u3]
      refine ⟨_, _, Lc, Lm, true, rfl, rfl, ⟨fun p y u => ?_, fun p y u => ?_, ?_, ?_⟩, ?_, C + 1, T, X, S, K, R, W, nl ++ [(0, nwB tx le a, nwE tx le a - nwB tx le a, 0, C)], ow, ct, sg, tu, ky, rd, wt, ⟨⟨mset_s, mset_s, by omega⟩, PrT_m (PrT_f pT' (fun x y u => hA4 x y (by omega) (by omega) (by omega)) (fun x y u => hM4 x y (by omega) (by omega) (by omega))) (by omega) (by omega), PrX_n (PrX_f pX' (fun x y u => hA4 x y (by omega) (by omega) (by omega)) (fun x y u => hM4 x y (by omega) (by omega) (by omega)) (fun _ _ _ => rfl) (fun _ _ => rfl)) rfl, PrB_f pB' (fun x u1 u2 => hM4 x 0 (by omega) (by omega) (by omega)) (fun _ _ _ _ _ => rfl) (fun _ _ _ _ _ => rfl), PrS_f pS' (fun x y u => hA4 x y (by omega) (by omega) (by omega)) (fun x y u => hM4 x y (by omega) (by omega) (by omega)), PrK_f pK' (fun x y u => hA4 x y (by omega) (by omega) (by omega)) (fun x y u => hM4 x y (by omega) (by omega) (by omega)), RdR_f pR' (fun x y u => hA4 x y (by omega) (by omega) (by omega)) (fun x y u => hM4 x y (by omega) (by omega) (by omega)) (fun _ => rfl) (fun _ => rfl), PrW_f pW' (fun x y u1 u2 => hA4 x y (by omega) (by omega) (by omega)) (fun x y u => hM4 x y (by omega) (by omega) (by omega)) (fun _ => rfl), NaR_f g3 (fun x y u => mset_n (by omega)) (fun x y u => mset_n (by omega)), NmB_0 nB rfl (by omega) (by omega) (by omega) (by omega) (by omega) (Or.inl ⟨rfl, by show C < C + 1; omega⟩)⟩, ?_, by omega⟩
      · rw [hA4 p y (by omega) (by omega) (by omega), fa p y (by omega)]
      · rw [hM4 p y (by omega) (by omega) (by omega), fm p y (by omega) (by omega) (by omega)]
      · exact fun _ _ => rfl
      · exact fun _ _ _ => rfl
      · rw [if_pos rfl, hA4 _ _ (by omega) (by omega) (by omega)]
        exact l9
      · rw [List.length_append]
        show 12 * (nl.length + 1) ≤ le + 1
        omega
    · rw [e3, mb2_s, if_neg (Fx_n hX), e4, mb3_s, if_pos (show (0 : Int32) = 0 from rfl)]
      exact rl_bad hP (by omega) (by omega) fa fm hX rfl rfl
  · rw [show DX8_newName fu 0 (sI C) 6 A Lc = _ from e1, mb2_s, show DX19_newName fu (sI C) 6 M Lm = _ from e2, mb3_s, if_pos (show (0 : Int32) = 0 from rfl), nf_end (Fx_n hX), mb2_s, if_neg (Fx_n hX)]
    exact rl_bad hP (by omega) (by omega) f1 (fun x y u1 u2 u3 => f2 x y (by omega)) hX rfl rfl
