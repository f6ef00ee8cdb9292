/-! READING: the line of a state -/
noncomputable def stG (fu : Nat) (v1 : Int32) (M1 : mwM) (L2 : mwL) : Option (Int32 × mwM × mwL) :=
  mlet (M1 732 9) (fun x5 => mlet ((M1 732 10) - (M1 732 9)) (fun x6 => mb3 (DX19_takes fu 7368564 M1 L2) (fun r9 M7 L8 => (if r9 = 0 then mb3 (DX19_state fu v1 M7 L8) (fun r13 M11 L12 => fX19_addState_b73 fu v1 x5 x6 r13 M11 L12) else fX19_addState_b73 fu v1 x5 x6 0 M7 L8))))
theorem stG_m {fu : Nat} {M : mwM} {L : mwL} : DX19_addState fu M L = mb3 (DX19_named fu 3 M L) (fun r47 M45 L46 => (if r47 < 0 then some (0, M45, L46) else mb3 (DX19_must fu M45 L46) (fun r51 M49 L50 => (if r51 = 0 then some (0, M49, L50) else mb3 (DX19_findState fu r47 M49 L50) (fun r55 M53 L54 => (if r55 ≤ 0 then mb3 (DX19_newIn fu 0 M53 L54) (fun r3 M1 L2 => if r3 = 0 then some (0, M1, L2) else stG fu r47 M1 L2) else mb3 (DX19_newIn fu 1 M53 L54) (fun r3 M1 L2 => if r3 = 0 then some (0, M1, L2) else stG fu r47 M1 L2))))))) := rfl
noncomputable def stK (fu : Nat) (v1 v2 v3 s0 : Int32) (r21 : Int32) (M19 : mwM) (L20 : mwL) : Option (Int32 × mwM × mwL) :=
  mb3 (DX19_end fu M19 L20) (fun r25 M23 L24 => (if r25 = 0 then some (0, M23, L24) else mck v1 12 (mb3 (DX13_state fu ((964 + 53 * v1.toNatClampNeg)) s0 r21 M23 L24) (fun r30 M28 L29 => mb3 (DX19_fits fu r30 M28 L29) (fun r33 M31 L32 => (if r33 = 0 then some (0, M31, L32) else mck v1 12 (mlet (mset M31 754 (v1.toNatClampNeg) r30) (fun M36 => mck ((201 * v1) + r30) 2412 (mlet (mset M36 755 (((201 * v1) + r30).toNatClampNeg) v2) (fun M38 => mck ((201 * v1) + r30) 2412 (mlet (mset M38 756 (((201 * v1) + r30).toNatClampNeg) v3) (fun M40 => some (1, M40, L32)))))))))))))
theorem stK_m {fu : Nat} {v1 v2 v3 s0 : Int32} {M : mwM} {L : mwL} : fX19_addState_b73 fu v1 v2 v3 s0 M L = if s0 < 0 then some (0, M, L) else mb3 (DX19_must fu M L) (fun r17 M15 L16 => if r17 = 0 then some (0, M15, L16) else mb3 (DX19_kind fu M15 L16) (fun r21 M19 L20 => if 0 ≤ r21 then stK fu v1 v2 v3 s0 r21 M19 L20 else mb3 (DX19_fail fu 1 (M19 732 9) M19 L20) (fun r43 M41 L42 => mzz r43 (some (r43, M41, L42))))) := rfl
theorem cst_zz {c : Nat → Nat → Nat} {p t : Nat} (h : ∀ s, s ≤ c 0 0 → c 13 s = 0 ∧ c 14 s = 0) : ∀ s, s ≤ cst c p t 0 0 → cst c p t 13 s = 0 ∧ cst c p t 14 s = 0 := by
  intro s hs
  have hs' : s ≤ c 0 0 + 1 := hs
  show (if (13 = 12 ∨ 13 = 13 ∨ 13 = 14) ∧ s = c 0 0 + 1 then 0 else c 13 s) = 0 ∧ (if (14 = 12 ∨ 14 = 13 ∨ 14 = 14) ∧ s = c 0 0 + 1 then 0 else c 14 s) = 0
  by_cases e : s = c 0 0 + 1
  · rw [if_pos ⟨by omega, e⟩, if_pos ⟨by omega, e⟩]
    exact ⟨rfl, rfl⟩
  · rw [if_neg (fun z => e z.2), if_neg (fun z => e z.2)]
    exact h s (by omega)
theorem NmB_c {C T X S : Nat} {nl : List Nm} {q : Nm} (h : NmB C T X S nl) (q0 : q.1 ≠ 0) (q1 : q.1 ≤ 2 * X) : NmB C T X S (nl ++ [q]) := by
  obtain ⟨h1, h2⟩ := h
  refine ⟨by rw [ns_app, if_neg q0]; exact h1, fun z hz => ?_⟩
  rcases List.mem_append.mp hz with hz | hz
  · exact h2 z hz
  · rw [List.mem_singleton.mp hz]
    exact ⟨q1, fun z0 => absurd z0 q0⟩
theorem st_state {fu n le a b C T X S K R W : Nat} {A M : mwM} {Lc Lm : mwL} {tx : Nat → Nat} {nl : List Nm} {ow ct : Nat → Nat} {sg : Nat → Nat → Nat} {tu : Nat → Bool} {ky rd wt : Nat → Nat → Nat} (hfu : 6100 ≤ fu) (h : Ld A M n tx le a) (hP : PR A M Lc Lm n C T X S K R W nl ow ct sg tu ky rd wt) (h7 : A 1 7 = sI b) (h8 : M 732 8 = sI b) (hbn : b ≤ 6000) (hb : a < le → tx a = 32) (hl : 12 * nl.length + 5 ≤ a) (hk : 15 * K ≤ a) : RlQ A M Lc Lm n le (DX8_readState fu A Lc) (DX19_addState fu M Lm) := by
  obtain ⟨⟨c1, c2, c3⟩, pT, pX, pB, pS, pK, pR, pW, pN, nB⟩ := id hP
  have ha := h.2.2.2.2.2.2.2.1
  have hle := h.2.2.2.2.1
  have hn := h.1.2.1
  have hX12 := pX.2.2.1
  obtain ⟨A1, M1, f1, f2, hr⟩ := st_told (fu := fu) (Lc := Lc) (Lm := Lm) (k := 2) hfu h pN (by omega)
  have fa1 : fWn A A1 := fun x y u => f1 x y (by omega)
  have fm1 : fG T S M M1 := fun x y u1 u2 u3 => f2 x y (by omega)
  rw [stG_m]
  unfold DX8_readState fX8_readState_b74
  rcases hr with ⟨q, q1, q2, q3, hk1, e1, e2, hL1, hH1⟩ | ⟨e1, e2, hX⟩
  rotate_left
  · rw [show DX8_toldName fu 0 2 A Lc = _ from e1, mb3_s, show DX19_named fu 3 M Lm = _ from e2, mb3_s, if_pos (show (-1 : Int32) < 0 by decide)]
    unfold DX8_statesOf
    simp only [nf_new (Fx_n hX), nf_parent (Fx_n hX), nf_one (Fx_n hX), nf_end (Fx_n hX), mb3_s, mb2_s, if_neg (Fx_n hX)]
    exact rl_bad hP (by omega) (by omega) fa1 fm1 hX rfl rfl
  have hx : q.2.2.2.2 < X := by
    rcases (nB.2 q q1).2 q2 with g | g | g | g <;> omega
  obtain ⟨k1, k2, k3⟩ := nw_2 ha hb hk1
  rw [show DX8_toldName fu 0 2 A Lc = _ from e1, mb3_s, show DX19_named fu 3 M Lm = _ from e2, mb3_s, if_neg (ns_s (by omega)), st_of, mb3_s]
  generalize hx' : q.2.2.2.2 = x at *
  have N1 := NaR_f pN (A' := A1) (M' := M1) (fun x y u => fa1 x y (by omega)) (fun x y u => fm1 x y (by omega) (by omega) (by omega))
  obtain ⟨A2, M2, f3, f4, hr⟩ := st_newStt (fu := fu) (Lc := Lc) (Lm := Lm) (stG fu (sI x)) hfu hL1 N1 hx
  have fa2 : fWn A A2 := fun x y u => by rw [f3 x y (by omega), fa1 x y u]
  have fm2 : fG T S M M2 := fun x y u1 u2 u3 => by rw [f4 x y (by omega), fm1 x y u1 u2 u3]
  rcases hr with ⟨hk2, e3, e4, hL2, hH2, w10, w11⟩ | ⟨e3, e4, hX⟩
  rotate_left
  · rw [e3, mb2_s, e4]
    simp only [nf_parent (Fx_n hX), nf_one (Fx_n hX), nf_end (Fx_n hX), mb3_s, mb2_s, if_neg (Fx_n hX)]
    exact rl_bad hP (by omega) (by omega) fa2 fm2 hX rfl rfl
  obtain ⟨k4, k5, k6⟩ := nw_2 k2 k3 hk2
  obtain ⟨y8, y9, n9, n10, hlt2⟩ := id hH2
  rw [e3, mb2_s, e4]
  unfold stG
  rw [mlet_e, mlet_e, n9, n10, sI_sub (by omega)]
  have N2 := NaR_f pN (A' := A2) (M' := M2) (fun x y u => fa2 x y (by omega)) (fun x y u => fm2 x y (by omega) (by omega) (by omega))
  generalize hw : nwB tx le (nwE tx le a) = w at *
  generalize he : nwE tx le (nwE tx le a) = e at *
  obtain ⟨A3, M3, f5, f6, hr⟩ := st_parent (fu := fu) (Lc := Lc) (Lm := Lm) (fun r13 M11 L12 => fX19_addState_b73 fu (sI x) (sI w) (sI (e - w)) r13 M11 L12) hfu hL2 N2 hx
  have fa3 : fWn A A3 := fun x y u => by rw [f5 x y (by omega), fa2 x y u]
  have fm3 : fG T S M M3 := fun x y u1 u2 u3 => by rw [f6 x y (by omega), fm2 x y u1 u2 u3]
  rcases hr with ⟨v, hv, hk3, e5, e6, hL3⟩ | ⟨e5, e6, hX⟩
  rotate_left
  · rw [e5, mb3_s, e6, stK_m, if_pos (show (-1 : Int32) < 0 by decide)]
    simp only [nf_one (Fx_n hX), nf_end (Fx_n hX), mb3_s, mb2_s, if_neg (Fx_n hX)]
    exact rl_bad hP (by omega) (by omega) fa3 fm3 hX rfl rfl
  have hi200 := (N1.2.2.2.2 x hx).1.2.1
  obtain ⟨k7, k8, k9⟩ := nw_2 k5 k6 hk3
  rw [e5, mb3_s, e6, stK_m, if_neg (ns_s (by omega))]
  obtain ⟨A4, M4, f7, f8, hr⟩ := st_kind (fu := fu) (Lc := Lc) (Lm := Lm) (stK fu (sI x) (sI w) (sI (e - w)) (sI v)) hfu hL3
  have fa4 : fWn A A4 := fun x y u => by rw [f7 x y (by omega), fa3 x y u]
  have fm4 : fG T S M M4 := fun x y u1 u2 u3 => by rw [f8 x y (by omega), fm3 x y u1 u2 u3]
  rcases hr with ⟨j, hj, hk4, e7, e8, hL4⟩ | ⟨e7, e8, hX⟩
  rotate_left
  · rw [e7, mb3_s, e8]
    simp only [nf_end (Fx_n hX), mb3_s, mb2_s, if_neg (Fx_n hX)]
    exact rl_bad hP (by omega) (by omega) fa4 fm4 hX rfl rfl
  obtain ⟨k10, k11, k12⟩ := nw_2 k8 k9 hk4
  rw [e7, mb3_s, e8]
  unfold stK
  obtain ⟨A5, M5, f9, f10, hr⟩ := st_eol (fu := fu) (Lc := Lc) (Lm := Lm) hfu hL4
  have fa5 : fWn A A5 := fun x y u => by rw [f9 x y (by omega), fa4 x y u]
  have fm5 : fG T S M M5 := fun x y u1 u2 u3 => by rw [f10 x y (by omega), fm4 x y u1 u2 u3]
  rcases hr with ⟨hk5, e9, e10, hL5⟩ | ⟨e9, e10, hX⟩
  rotate_left
  · rw [e9, mb2_s, if_neg (Fx_n hX), e10, mb3_s, if_pos (show (0 : Int32) = 0 from rfl)]
    exact rl_bad hP (by omega) (by omega) fa5 fm5 hX rfl rfl
  have l9 := hL5.2.2.2.2.2.2.2.2
  have hP5 := PR_f hP (A' := A5) (M' := M5) (fun a y u => fa5 a y (by omega)) (fun a y u1 u2 u3 => fm5 a y (by omega) u2 u3)
  have g7 : A5 1 7 = sI b := by rw [fa5 _ _ (by omega)]; exact h7
  have g8 : M5 732 8 = sI b := by rw [fm5 _ _ (by omega) (by omega) (by omega)]; exact h8
  have g10 : A5 1 10 = sI w := by rw [f9 _ _ (by omega), f7 _ _ (by omega), f5 _ _ (by omega)]; exact w10
  have g11 : A5 1 11 = sI (e - w) := by rw [f9 _ _ (by omega), f7 _ _ (by omega), f5 _ _ (by omega)]; exact w11
  rw [e9, mb2_s, if_pos l9, e10, mb3_s, if_neg (show ¬ (1 : Int32) = 0 by decide), mck_s (show x < 12 by omega) (by omega), mck_s (show x < 12 by omega) (by omega), sI_nn (by omega)]
  obtain ⟨v1, v2, v3, v4, v5, c, va, D, xx, v6, v7, v8, v9, v10, v11, v12, v13⟩ := (hP5.2.2.1.2.2.2.1 x hx).2.2.2
  obtain ⟨rc, A6, Lc6, i1, i3⟩ := wq_e3 (c_addState (fu := fu) (k := 293 + 36 * x) (p := v) (t := j) (by omega) v6 v7 (by omega) (by omega))
  obtain ⟨rm, M6, Lm6, j1, j2, j3, j4⟩ := wq_e3 (m_state (fu := fu) (q := 964 + 53 * x) (p := v) (t := j) v6 v8 v9 (by omega) (by omega))
  dsimp only at i3 j2 j3 j4
  subst j2
  rw [i1, mb3_s, j1, mb3_s]
  have badz : ∀ r : Int32, ¬ (0 : Int32) ≤ r → rc = r → A6 = A5 → Lc6 = Lc → rm = r → ReM (964 + 53 * x) M6 Lm6 c b00 va D xx → ClM (964 + 53 * x) M6 Lm6 c → RlQ A M Lc Lm6 n le (mb2 (DX8_heed fu rc A6 Lc6) (fun M22 L23 => mb3 (DX8_statesOf fu (sI x) M22 L23) (fun r26 M24 L25 => mb2 (DX8_keepName fu r26 4 rc M24 L25) (fun M27 L28 => some (M27, L28))))) (mb3 (DX19_fits fu rm M6 Lm6) (fun r33 M31 L32 => (if r33 = 0 then some (0, M31, L32) else mck (sI x) 12 (mlet (mset M31 754 x rm) (fun M36 => mck ((201 * sI x) + rm) 2412 (mlet (mset M36 755 (((201 * sI x) + rm).toNatClampNeg) (sI w)) (fun M38 => mck ((201 * sI x) + rm) 2412 (mlet (mset M38 756 (((201 * sI x) + rm).toNatClampNeg) (sI (e - w))) (fun M40 => some (1, M40, L32)))))))))) := fun r hr y1 y2 y3 y4 y5 y6 => by
    subst y1 y2 y3 y4
    have l8 : M6 732 8 = sI b := by rw [j3 _ _ (by omega)]; exact g8
    have hh : ¬ (flA A6 (sI (hdK rm)) (sI b)) 1 12 = 0 := by
      show ¬ mset (mset A6 1 12 (sI (hdK rm))) 1 13 (sI b) 1 12 = 0
      rw [mset_n (by omega), mset_s, show (0 : Int32) = sI 0 from rfl]
      unfold hdK
      by_cases c : rm = -4
      · rw [if_pos c]
        decide
      · rw [if_neg c]
        decide
    rw [c_heed l9 g7 hr, mb2_s, st_of, mb3_s, nf_keep hh, mb2_s, m_fits l8 hr, mb3_s, if_pos (show (0 : Int32) = 0 from rfl)]
    exact rl_heed (x := x) hP5 (by omega) (by omega) fa5 fm5 hx hbn (fun p y u => j3 p y (by omega)) (fun p u => rfl) ⟨v1, v2, by rw [j3 _ _ (by omega)]; exact v3, by rw [j3 _ _ (by omega)]; exact v4, v5, c, va, D, xx, v6, v7, y5, y6, v10, v11, by rw [j3 _ _ (by omega)]; exact v12, v13⟩ rfl rfl
  by_cases cc : 2 ≤ c 2 v ∨ 40 ≤ c 3 v
  · rw [if_pos cc] at i3 j4
    injection i3 with x1 x2
    injection x2 with x2 x3
    exact badz (-2) (by decide) x1 x2 x3 j4.1 j4.2.1 j4.2.2
  rw [if_neg cc] at i3 j4
  by_cases c4 : 200 ≤ c 0 0
  · rw [if_pos c4] at i3 j4
    injection i3 with x1 x2
    injection x2 with x2 x3
    exact badz (-4) (by decide) x1 x2 x3 j4.1 j4.2.1 j4.2.2
  rw [if_neg c4] at i3 j4
  clear badz
  obtain ⟨rfl, rfl, i4, i5⟩ := i3
  obtain ⟨rfl, j5, j6⟩ := j4
  have N5 := hP5.2.2.2.2.2.2.2.2.1
  obtain ⟨nC, nO, nM, nX, nS⟩ := id N5
  obtain ⟨A7, r1, r2, r3⟩ := c_keep (fu := fu) (σ := 1 + 2 * x) (k := 4) (v := c 0 0 + 1) (L := Lc6) (A := A6) (NmC_f nC (fun p y u => i5 p y (by omega) (by omega))) (by rw [i5 _ _ (by omega) (by omega)]; exact l9) (by rw [i5 _ _ (by omega) (by omega)]; exact g10) (by rw [i5 _ _ (by omega) (by omega)]; exact g11) (by omega)
  have e201 : (201 : Int32) * sI x + sI (c 0 0 + 1) = sI (201 * x + (c 0 0 + 1)) := by rw [show (201 : Int32) * sI x = sI (201 * x) from sI_lml, sI_add]
  rw [c_heed0 (by omega), mb2_s, st_of, mb3_s, show DX8_keepName fu (sI (1 + 2 * x)) 4 (sI (c 0 0 + 1)) A6 Lc6 = _ from r1, mb2_s, m_fits0 (by omega), mb3_s, if_neg (show ¬ (1 : Int32) = 0 by decide), mck_s (show x < 12 by omega) (by omega), mlet_e, e201, mck_s (show 201 * x + (c 0 0 + 1) < 2412 by omega) (by omega), mlet_e, mck_s (show 201 * x + (c 0 0 + 1) < 2412 by omega) (by omega), mlet_e, sI_nn (by omega)]
  generalize hM7 : mset (mset (mset M6 754 x (sI (c 0 0 + 1))) 755 (201 * x + (c 0 0 + 1)) (sI w)) 756 (201 * x + (c 0 0 + 1)) (sI (e - w)) = M7
  have fm7 : ∀ p y, ¬ (p = 754 ∧ y = x) → ¬ ((p = 755 ∨ p = 756) ∧ y = 201 * x + (c 0 0 + 1)) → M7 p y = M6 p y := fun p y u1 u2 => by rw [← hM7, mset_n (by omega), mset_n (by omega), mset_n (by omega)]
  have s54 : M7 754 x = sI (c 0 0 + 1) := by rw [← hM7, mset_n (by omega), mset_n (by omega), mset_s]
  have s55 : M7 755 (201 * x + (c 0 0 + 1)) = sI w := by rw [← hM7, mset_n (by omega), mset_s]
  have s56 : M7 756 (201 * x + (c 0 0 + 1)) = sI (e - w) := by rw [← hM7, mset_s]
  have hA : ∀ p y, ¬ (293 + 36 * x ≤ p ∧ p ≤ 293 + 36 * x + 35) → ¬ (p = 1 ∧ y = 3) → ¬ (726 ≤ p ∧ p ≤ 730) → A7 p y = A5 p y := fun p y u1 u2 u3 => by rw [r3 p y (by omega) u3, i5 p y (by omega) (by omega)]
  have hM : ∀ p y, ¬ (964 + 53 * x ≤ p ∧ p ≤ 964 + 53 * x + 29) → ¬ (754 ≤ p ∧ p ≤ 756) → M7 p y = M5 p y := fun p y u1 u2 => by rw [fm7 p y (by omega) (by omega), j3 p y (by omega)]
  have len : (nsL (1 + 2 * x) (nl ++ [(1 + 2 * x, w, e - w, 4, c 0 0 + 1)])).length = c 0 0 + 1 := by
    rw [ns_app, if_pos rfl, List.length_append, v10]
    rfl
  have len2 : nsL (2 + 2 * x) (nl ++ [(1 + 2 * x, w, e - w, 4, c 0 0 + 1)]) = nsL (2 + 2 * x) nl := by
    rw [ns_app, if_neg (show ¬ 1 + 2 * x = 2 + 2 * x by omega)]
  have oth : ∀ σ, σ ≠ 1 + 2 * x → nsL σ (nl ++ [(1 + 2 * x, w, e - w, 4, c 0 0 + 1)]) = nsL σ nl := fun σ hσ => by rw [ns_app, if_neg (show ¬ 1 + 2 * x = σ by omega)]
  have N7 : NaR A7 M7 n X (nl ++ [(1 + 2 * x, w, e - w, 4, c 0 0 + 1)]) := by
    refine ⟨r2, NmO_a nO ⟨by show 1 + 2 * x < 100; omega, by show w + (e - w) ≤ n; omega, by show 1 ≤ e - w; omega, by show 4 < 10; omega, by show c 0 0 + 1 < 1000; omega⟩, ?_, nX, fun z hz => ?_⟩
    · rw [oth 0 (by omega)]
      obtain ⟨p1, p2, p3⟩ := nM
      refine ⟨by rw [hM _ _ (by omega) (by omega)]; exact p1, p2, fun t ht => ?_⟩
      rw [hM _ _ (by omega) (by omega), hM _ _ (by omega) (by omega), hM _ _ (by omega) (by omega), hM _ _ (by omega) (by omega)]
      exact p3 t ht
    · obtain ⟨⟨p1, p2, p3⟩, ⟨d1, d2, d3⟩⟩ := nS z hz
      rw [oth (2 + 2 * z) (by omega)]
      refine ⟨?_, ⟨by rw [hM _ _ (by omega) (by omega)]; exact d1, d2, fun t ht => by rw [hM _ _ (by omega) (by omega), hM _ _ (by omega) (by omega)]; exact d3 t ht⟩⟩
      by_cases cz : z = x
      · subst cz
        refine ⟨by rw [len]; exact s54, by rw [len]; omega, fun t ht => ?_⟩
        have ht' : t < c 0 0 + 1 := by rw [← len]; exact ht
        have hs : nsL (1 + 2 * z) (nl ++ [(1 + 2 * z, w, e - w, 4, c 0 0 + 1)]) = nsL (1 + 2 * z) nl ++ [(1 + 2 * z, w, e - w, 4, c 0 0 + 1)] := by rw [ns_app, if_pos rfl]
        by_cases ct : t = c 0 0
        · have e0 : (nsL (1 + 2 * z) (nl ++ [(1 + 2 * z, w, e - w, 4, c 0 0 + 1)]))[t]'ht = (1 + 2 * z, w, e - w, 4, c 0 0 + 1) := by
            simp only [hs]
            rw [List.getElem_append_right (by omega)]
            exact List.getElem_singleton _
          rw [e0, ct]
          exact ⟨by rw [show 201 * z + c 0 0 + 1 = 201 * z + (c 0 0 + 1) by omega]; exact s55, by rw [show 201 * z + c 0 0 + 1 = 201 * z + (c 0 0 + 1) by omega]; exact s56, rfl, rfl⟩
        · have ht2 : t < (nsL (1 + 2 * z) nl).length := by omega
          have e0 : (nsL (1 + 2 * z) (nl ++ [(1 + 2 * z, w, e - w, 4, c 0 0 + 1)]))[t]'ht = (nsL (1 + 2 * z) nl)[t] := by
            simp only [hs]
            exact List.getElem_append_left ht2
          rw [e0, fm7 _ _ (by omega) (by omega), fm7 _ _ (by omega) (by omega), j3 _ _ (by omega), j3 _ _ (by omega)]
          exact p3 t ht2
      · rw [oth (1 + 2 * z) (by omega)]
        refine ⟨by rw [fm7 _ _ (by omega) (by omega), j3 _ _ (by omega)]; exact p1, p2, fun t ht => ?_⟩
        have : 201 * z + t + 1 ≠ 201 * x + (c 0 0 + 1) := by omega
        rw [fm7 _ _ (by omega) (by omega), fm7 _ _ (by omega) (by omega), j3 _ _ (by omega), j3 _ _ (by omega)]
        exact p3 t ht
  refine ⟨A7, M7, Lc6, Lm6, true, rfl, rfl, ⟨fun p y u => ?_, fun p y u => ?_, ?_, ?_⟩, ?_, C, T, X, S, K, R, W, nl ++ [(1 + 2 * x, w, e - w, 4, c 0 0 + 1)], ow, ct, sg, tu, ky, rd, wt, PR_ch hP5 hx (fun p y u1 u2 u3 => hA p y u1 (by omega) u3) (by rw [r3 _ _ (by omega) (by omega), i5 _ _ (by omega) (by omega)]) (fun p y u1 u2 u3 u4 => hM p y (by omega) (by omega)) (fun _ _ => rfl) (fun _ _ => rfl) N7 (NmB_c nB (by show 1 + 2 * x ≠ 0; omega) (by show 1 + 2 * x ≤ 2 * X; omega)) ?_ (fun z hz => ⟨oth _ (by omega), oth _ (by omega)⟩), ?_, by omega⟩
  · rw [hA p y (by omega) (by omega) (by omega), fa5 p y (by omega)]
  · rw [hM p y (by omega) (by omega), fm5 p y (by omega) (by omega) (by omega)]
  · exact fun _ _ => rfl
  · exact fun _ _ _ => rfl
  · rw [if_pos rfl, hA _ _ (by omega) (by omega) (by omega)]
    exact l9
  · rw [len, len2]
    refine ⟨by rw [r3 _ _ (by omega) (by omega), i5 _ _ (by omega) (by omega)]; exact v1, by rw [r3 _ _ (by omega) (by omega), i5 _ _ (by omega) (by omega)]; exact v2, by rw [hM _ _ (by omega) (by omega)]; exact v3, by rw [hM _ _ (by omega) (by omega)]; exact v4, v5, cst c v j, va, D, xx, Cv_st v6 (by omega) (by omega) (by omega) (by omega) c4, ReC_f i4 (fun p y u1 u2 _ _ _ _ => r3 p y (by omega) (by omega)) rfl, ReM_f j5 (fun p y u1 u2 _ => fm7 p y (by omega) (by omega)) (fun _ _ _ => rfl), ClM_f j6 (fun p y u1 u2 _ => fm7 p y (by omega) (by omega)) (fun _ _ _ => rfl), rfl, v11, by rw [hM _ _ (by omega) (by omega)]; exact v12, cst_zz v13⟩
  · rw [List.length_append]
    show 12 * (nl.length + 1) ≤ le + 1
    omega
/-! READING: the line of a datum -/
noncomputable def daG (fu : Nat) (v1 : Int32) (M1 : mwM) (L2 : mwL) : Option (Int32 × mwM × mwL) :=
  mlet (M1 732 9) (fun x5 => mlet ((M1 732 10) - (M1 732 9)) (fun x6 => mb3 (DX19_number fu ((-999999999)) 999999999 M1 L2) (fun r9 M7 L8 => (if r9 = 0 then some (0, M7, L8) else mlet (M7 732 13) (fun x11 => mb3 (DX19_end fu M7 L8) (fun r14 M12 L13 => (if r14 = 0 then some (0, M12, L13) else mck v1 12 ((if (M12 757 v1.toNatClampNeg) = 32 then mb3 (DX19_fail fu 6 (M12 732 8) M12 L13) (fun r33 M31 L32 => mzz r33 (some (r33, M31, L32))) else mck v1 12 (mb3 (DX13_data fu ((964 + 53 * v1.toNatClampNeg)) x11.toInt64 M12 L13) (fun r21 M19 L20 => mck v1 12 (mck ((32 * v1) + (M19 757 v1.toNatClampNeg)) 384 (mlet (mset M19 758 (((32 * v1) + (M19 757 v1.toNatClampNeg)).toNatClampNeg) x5) (fun M24 => mck v1 12 (mck ((32 * v1) + (M24 757 v1.toNatClampNeg)) 384 (mlet (mset M24 759 (((32 * v1) + (M24 757 v1.toNatClampNeg)).toNatClampNeg) x6) (fun M27 => mck v1 12 (mck v1 12 (mlet (mset M27 757 (v1.toNatClampNeg) ((M27 757 v1.toNatClampNeg) + 1)) (fun M30 => some (1, M30, L20)))))))))))))))))))))
theorem daG_m {fu : Nat} {M : mwM} {L : mwL} : DX19_addDatum fu M L = mb3 (DX19_named fu 3 M L) (fun r47 M45 L46 => (if r47 < 0 then some (0, M45, L46) else mb3 (DX19_must fu M45 L46) (fun r51 M49 L50 => (if r51 = 0 then some (0, M49, L50) else mb3 (DX19_findDatum fu r47 M49 L50) (fun r55 M53 L54 => (if r55 < 0 then mb3 (DX19_newIn fu 0 M53 L54) (fun r3 M1 L2 => if r3 = 0 then some (0, M1, L2) else daG fu r47 M1 L2) else mb3 (DX19_newIn fu 1 M53 L54) (fun r3 M1 L2 => if r3 = 0 then some (0, M1, L2) else daG fu r47 M1 L2))))))) := rfl
theorem st_datum {fu n le a b C T X S K R W : Nat} {A M : mwM} {Lc Lm : mwL} {tx : Nat → Nat} {nl : List Nm} {ow ct : Nat → Nat} {sg : Nat → Nat → Nat} {tu : Nat → Bool} {ky rd wt : Nat → Nat → Nat} (hfu : 6100 ≤ fu) (h : Ld A M n tx le a) (hP : PR A M Lc Lm n C T X S K R W nl ow ct sg tu ky rd wt) (h7 : A 1 7 = sI b) (h8 : M 732 8 = sI b) (hbn : b ≤ 6000) (hb : a < le → tx a = 32) (hl : 12 * nl.length + 5 ≤ a) (hk : 15 * K ≤ a) : RlQ A M Lc Lm n le (DX8_readDatum fu A Lc) (DX19_addDatum fu M Lm) := by
  obtain ⟨⟨c1, c2, c3⟩, pT, pX, pB, pS, pK, pR, pW, pN, nB⟩ := id hP
  have ha := h.2.2.2.2.2.2.2.1
  have hle := h.2.2.2.2.1
  have hn := h.1.2.1
  have hX12 := pX.2.2.1
  obtain ⟨A1, M1, f1, f2, hr⟩ := st_told (fu := fu) (Lc := Lc) (Lm := Lm) (k := 2) hfu h pN (by omega)
  have fa1 : fWn A A1 := fun x y u => f1 x y (by omega)
  have fm1 : fG T S M M1 := fun x y u1 u2 u3 => f2 x y (by omega)
  rw [daG_m]
  unfold DX8_readDatum fX8_readDatum_b66
  rcases hr with ⟨q, q1, q2, q3, hk1, e1, e2, hL1, hH1⟩ | ⟨e1, e2, hX⟩
  rotate_left
  · rw [show DX8_toldName fu 0 2 A Lc = _ from e1, mb3_s, show DX19_named fu 3 M Lm = _ from e2, mb3_s, if_pos (show (-1 : Int32) < 0 by decide)]
    unfold DX8_dataOf
    simp only [nf_new (Fx_n hX), nf_number (Fx_n hX), nf_end (Fx_n hX), mb3_s, mb2_s, if_neg (Fx_n hX)]
    exact rl_bad hP (by omega) (by omega) fa1 fm1 hX rfl rfl
  have hx : q.2.2.2.2 < X := by
    rcases (nB.2 q q1).2 q2 with g | g | g | g <;> omega
  obtain ⟨k1, k2, k3⟩ := nw_2 ha hb hk1
  rw [show DX8_toldName fu 0 2 A Lc = _ from e1, mb3_s, show DX19_named fu 3 M Lm = _ from e2, mb3_s, if_neg (ns_s (by omega)), da_of, mb3_s]
  generalize hx' : q.2.2.2.2 = x at *
  have N1 := NaR_f pN (A' := A1) (M' := M1) (fun x y u => fa1 x y (by omega)) (fun x y u => fm1 x y (by omega) (by omega) (by omega))
  obtain ⟨A2, M2, f3, f4, hr⟩ := st_newDat (fu := fu) (Lc := Lc) (Lm := Lm) (daG fu (sI x)) hfu hL1 N1 hx
  have fa2 : fWn A A2 := fun x y u => by rw [f3 x y (by omega), fa1 x y u]
  have fm2 : fG T S M M2 := fun x y u1 u2 u3 => by rw [f4 x y (by omega), fm1 x y u1 u2 u3]
  rcases hr with ⟨hk2, e3, e4, hL2, hH2, w10, w11⟩ | ⟨e3, e4, hX⟩
  rotate_left
  · rw [e3, mb2_s, e4]
    simp only [nf_number (Fx_n hX), nf_end (Fx_n hX), mb3_s, mb2_s, if_neg (Fx_n hX)]
    exact rl_bad hP (by omega) (by omega) fa2 fm2 hX rfl rfl
  obtain ⟨k4, k5, k6⟩ := nw_2 k2 k3 hk2
  obtain ⟨y8, y9, n9, n10, hlt2⟩ := id hH2
  rw [e3, mb2_s, e4]
  unfold daG
  rw [mlet_e, mlet_e, n9, n10, sI_sub (by omega)]
  have N2 := NaR_f pN (A' := A2) (M' := M2) (fun x y u => fa2 x y (by omega)) (fun x y u => fm2 x y (by omega) (by omega) (by omega))
  generalize hw : nwB tx le (nwE tx le a) = w at *
  generalize he : nwE tx le (nwE tx le a) = e at *
  obtain ⟨A3, M3, f5, f6, hr⟩ := st_number (fu := fu) (Lc := Lc) (Lm := Lm) (a1 := -999999999) (a2 := 999999999) hfu hL2
  have fa3 : fWn A A3 := fun x y u => by rw [f5 x y (by omega), fa2 x y u]
  have fm3 : fG T S M M3 := fun x y u1 u2 u3 => by rw [f6 x y (by omega), fm2 x y u1 u2 u3]
  rcases hr with ⟨hk3, z1, z2, z3, e5, e6, e7, hL3, _⟩ | ⟨e5, e6, hX⟩
  rotate_left
  · rw [e5, mb3_s, e6, mb3_s, if_pos (show (0 : Int32) = 0 from rfl)]
    simp only [nf_end (Fx_n hX), mb3_s, mb2_s, if_neg (Fx_n hX)]
    exact rl_bad hP (by omega) (by omega) fa3 fm3 hX rfl rfl
  obtain ⟨k7, k8, k9⟩ := nw_2 k5 k6 hk3
  rw [e5, mb3_s, e6, mb3_s, if_neg (show ¬ (1 : Int32) = 0 by decide), mlet_e, e7]
  generalize nuV tx (nwB tx le e) (nwE tx le e - nwB tx le e) = v
  obtain ⟨A5, M5, f9, f10, hr⟩ := st_eol (fu := fu) (Lc := Lc) (Lm := Lm) hfu hL3
  have fa5 : fWn A A5 := fun x y u => by rw [f9 x y (by omega), fa3 x y u]
  have fm5 : fG T S M M5 := fun x y u1 u2 u3 => by rw [f10 x y (by omega), fm3 x y u1 u2 u3]
  rcases hr with ⟨hk5, e9, e10, hL5⟩ | ⟨e9, e10, hX⟩
  rotate_left
  · rw [e9, mb2_s, if_neg (Fx_n hX), e10, mb3_s, if_pos (show (0 : Int32) = 0 from rfl)]
    exact rl_bad hP (by omega) (by omega) fa5 fm5 hX rfl rfl
  have l9 := hL5.2.2.2.2.2.2.2.2
  have hP5 := PR_f hP (A' := A5) (M' := M5) (fun a y u => fa5 a y (by omega)) (fun a y u1 u2 u3 => fm5 a y (by omega) u2 u3)
  have g7 : A5 1 7 = sI b := by rw [fa5 _ _ (by omega)]; exact h7
  have g8 : M5 732 8 = sI b := by rw [fm5 _ _ (by omega) (by omega) (by omega)]; exact h8
  have g10 : A5 1 10 = sI w := by rw [f9 _ _ (by omega), f5 _ _ (by omega)]; exact w10
  have g11 : A5 1 11 = sI (e - w) := by rw [f9 _ _ (by omega), f5 _ _ (by omega)]; exact w11
  have N5 := hP5.2.2.2.2.2.2.2.2.1
  obtain ⟨nC, nO, nM, nX, nS⟩ := id N5
  obtain ⟨v1, v2, v3, v4, v5, c, va, D, xx, v6, v7, v8, v9, v10, v11, v12, v13⟩ := (hP5.2.2.1.2.2.2.1 x hx).2.2.2
  have s0 : M5 757 x = sI (c 0 4) := by rw [v11]; exact (nS x hx).2.1
  have h32 : c 0 4 ≤ 32 := v6.2.2.2.2.1
  rw [e9, mb2_s, if_pos l9, e10, mb3_s, if_neg (show ¬ (1 : Int32) = 0 by decide), mck_s (show x < 12 by omega) (by omega), mck_s (show x < 12 by omega) (by omega), sI_nn (by omega), s0]
  obtain ⟨rc, A6, Lc6, i1, i3⟩ := wq_e3 (c_addDatum (fu := fu) (k := 293 + 36 * x) (v := v) v6 v7)
  dsimp only at i3
  rw [i1, mb3_s]
  by_cases c4 : 32 ≤ c 0 4
  · rw [if_pos c4] at i3
    injection i3 with x1 x2
    injection x2 with x2 x3
    subst x1 x2 x3
    have hh : ¬ (flA A6 (sI (hdK (-4))) (sI b)) 1 12 = 0 := by
      show ¬ mset (mset A6 1 12 (sI (hdK (-4)))) 1 13 (sI b) 1 12 = 0
      rw [mset_n (by omega), mset_s]
      decide
    rw [c_heed l9 g7 (by decide), mb2_s, da_of, mb3_s, nf_keep hh, mb2_s, if_pos (show sI (c 0 4) = 32 by rw [show c 0 4 = 32 by omega]; rfl), m_fail, mb3_s, g8]
    exact rl_heed (x := x) (r := -4) hP5 (by omega) (by omega) fa5 fm5 hx hbn (fun p y u => rfl) (fun p u => rfl) ⟨v1, v2, v3, v4, v5, c, va, D, xx, v6, v7, v8, v9, v10, v11, v12, v13⟩ rfl rfl
  rw [if_neg c4] at i3
  obtain ⟨rfl, i4, i5, i6⟩ := i3
  obtain ⟨rm, M6, Lm6, j1, j2, j3, j4⟩ := wq_e3 (m_data (fu := fu) (q := 964 + 53 * x) (v := v.toInt64) v6 v8 v9)
  dsimp only at j2 j3 j4
  rw [if_neg c4] at j4
  obtain ⟨rfl, _, j5, j6⟩ := j4
  obtain ⟨A7, r1, r2, r3⟩ := c_keep (fu := fu) (σ := 2 + 2 * x) (k := 5) (v := c 0 4) (L := Lc6) (A := A6) (NmC_f nC (fun p y u => i5 p y (by omega))) (by rw [i5 _ _ (by omega)]; exact l9) (by rw [i5 _ _ (by omega)]; exact g10) (by rw [i5 _ _ (by omega)]; exact g11) (by omega)
  have e32 : (32 : Int32) * sI x + sI (c 0 4) = sI (32 * x + c 0 4) := by rw [show (32 : Int32) * sI x = sI (32 * x) from sI_lml, sI_add]
  have s6 : M6 757 x = sI (c 0 4) := by rw [j2 _ _ (by omega)]; exact s0
  rw [c_heed0 (by omega), mb2_s, da_of, mb3_s, show DX8_keepName fu (sI (2 + 2 * x)) 5 (sI (c 0 4)) A6 Lc6 = _ from r1, mb2_s, if_neg (show ¬ sI (c 0 4) = 32 by rw [show (32 : Int32) = sI 32 from rfl, sI_eq (by omega) (by omega)]; omega), mck_s (show x < 12 by omega) (by omega), j1, mb3_s, mck_s (show x < 12 by omega) (by omega), s6, e32, mck_s (show 32 * x + c 0 4 < 384 by omega) (by omega), mlet_e, sI_nn (by omega), mck_s (show x < 12 by omega) (by omega), mset_n (show ¬ (757 = 758 ∧ x = 32 * x + c 0 4) by omega), s6, e32, mck_s (show 32 * x + c 0 4 < 384 by omega) (by omega), mlet_e, sI_nn (by omega), mck_s (show x < 12 by omega) (by omega), mck_s (show x < 12 by omega) (by omega), mlet_e, mset_n (show ¬ (757 = 759 ∧ x = 32 * x + c 0 4) by omega), mset_n (show ¬ (757 = 758 ∧ x = 32 * x + c 0 4) by omega), s6, sI_1]
  generalize hM7 : mset (mset (mset M6 758 (32 * x + c 0 4) (sI w)) 759 (32 * x + c 0 4) (sI (e - w))) 757 x (sI (c 0 4 + 1)) = M7
  have fm7 : ∀ p y, ¬ (p = 757 ∧ y = x) → ¬ ((p = 758 ∨ p = 759) ∧ y = 32 * x + c 0 4) → M7 p y = M6 p y := fun p y u1 u2 => by rw [← hM7, mset_n (by omega), mset_n (by omega), mset_n (by omega)]
  have s57 : M7 757 x = sI (c 0 4 + 1) := by rw [← hM7, mset_s]
  have s58 : M7 758 (32 * x + c 0 4) = sI w := by rw [← hM7, mset_n (by omega), mset_n (by omega), mset_s]
  have s59 : M7 759 (32 * x + c 0 4) = sI (e - w) := by rw [← hM7, mset_n (by omega), mset_s]
  have hA : ∀ p y, ¬ (293 + 36 * x ≤ p ∧ p ≤ 293 + 36 * x + 35) → ¬ (p = 1 ∧ y = 3) → ¬ (726 ≤ p ∧ p ≤ 730) → A7 p y = A5 p y := fun p y u1 u2 u3 => by rw [r3 p y (by omega) u3, i5 p y (by omega)]
  have hM : ∀ p y, ¬ (964 + 53 * x ≤ p ∧ p ≤ 964 + 53 * x + 29) → ¬ (757 ≤ p ∧ p ≤ 759) → M7 p y = M5 p y := fun p y u1 u2 => by rw [fm7 p y (by omega) (by omega), j2 p y (by omega)]
  have len : (nsL (2 + 2 * x) (nl ++ [(2 + 2 * x, w, e - w, 5, c 0 4)])).length = c 0 4 + 1 := by
    rw [ns_app, if_pos rfl, List.length_append, v11]
    rfl
  have oth : ∀ σ, σ ≠ 2 + 2 * x → nsL σ (nl ++ [(2 + 2 * x, w, e - w, 5, c 0 4)]) = nsL σ nl := fun σ hσ => by rw [ns_app, if_neg (show ¬ 2 + 2 * x = σ by omega)]
  have N7 : NaR A7 M7 n X (nl ++ [(2 + 2 * x, w, e - w, 5, c 0 4)]) := by
    refine ⟨r2, NmO_a nO ⟨by show 2 + 2 * x < 100; omega, by show w + (e - w) ≤ n; omega, by show 1 ≤ e - w; omega, by show 5 < 10; omega, by show c 0 4 < 1000; omega⟩, ?_, nX, fun z hz => ?_⟩
    · rw [oth 0 (by omega)]
      obtain ⟨p1, p2, p3⟩ := nM
      refine ⟨by rw [hM _ _ (by omega) (by omega)]; exact p1, p2, fun t ht => ?_⟩
      rw [hM _ _ (by omega) (by omega), hM _ _ (by omega) (by omega), hM _ _ (by omega) (by omega), hM _ _ (by omega) (by omega)]
      exact p3 t ht
    · obtain ⟨⟨p1, p2, p3⟩, ⟨d1, d2, d3⟩⟩ := nS z hz
      rw [oth (1 + 2 * z) (by omega)]
      refine ⟨⟨by rw [hM _ _ (by omega) (by omega)]; exact p1, p2, fun t ht => by rw [hM _ _ (by omega) (by omega), hM _ _ (by omega) (by omega)]; exact p3 t ht⟩, ?_⟩
      by_cases cz : z = x
      · subst cz
        refine ⟨by rw [len]; exact s57, by rw [len]; omega, fun t ht => ?_⟩
        have ht' : t < c 0 4 + 1 := by rw [← len]; exact ht
        have hs : nsL (2 + 2 * z) (nl ++ [(2 + 2 * z, w, e - w, 5, c 0 4)]) = nsL (2 + 2 * z) nl ++ [(2 + 2 * z, w, e - w, 5, c 0 4)] := by rw [ns_app, if_pos rfl]
        by_cases ct : t = c 0 4
        · have e0 : (nsL (2 + 2 * z) (nl ++ [(2 + 2 * z, w, e - w, 5, c 0 4)]))[t]'ht = (2 + 2 * z, w, e - w, 5, c 0 4) := by
            simp only [hs]
            rw [List.getElem_append_right (by omega)]
            exact List.getElem_singleton _
          rw [e0, ct]
          exact ⟨s58, s59, rfl, rfl⟩
        · have ht2 : t < (nsL (2 + 2 * z) nl).length := by omega
          have e0 : (nsL (2 + 2 * z) (nl ++ [(2 + 2 * z, w, e - w, 5, c 0 4)]))[t]'ht = (nsL (2 + 2 * z) nl)[t] := by
            simp only [hs]
            exact List.getElem_append_left ht2
          rw [e0, fm7 _ _ (by omega) (by omega), fm7 _ _ (by omega) (by omega), j2 _ _ (by omega), j2 _ _ (by omega)]
          exact d3 t ht2
      · rw [oth (2 + 2 * z) (by omega)]
        refine ⟨by rw [fm7 _ _ (by omega) (by omega), j2 _ _ (by omega)]; exact d1, d2, fun t ht => ?_⟩
        have : 32 * z + t ≠ 32 * x + c 0 4 := by omega
        rw [fm7 _ _ (by omega) (by omega), fm7 _ _ (by omega) (by omega), j2 _ _ (by omega), j2 _ _ (by omega)]
        exact d3 t ht
  refine ⟨A7, M7, Lc6, Lm6, true, rfl, rfl, ⟨fun p y u => ?_, fun p y u => ?_, ?_, ?_⟩, ?_, C, T, X, S, K, R, W, nl ++ [(2 + 2 * x, w, e - w, 5, c 0 4)], ow, ct, sg, tu, ky, rd, wt, PR_ch hP5 hx (fun p y u1 u2 u3 => hA p y u1 (by omega) u3) (by rw [r3 _ _ (by omega) (by omega), i5 _ _ (by omega)]) (fun p y u1 u2 u3 u4 => hM p y (by omega) (by omega)) (fun p hp => i6 p hp) (fun p hp => j3 p (by omega)) N7 (NmB_c nB (by show 2 + 2 * x ≠ 0; omega) (by show 2 + 2 * x ≤ 2 * X; omega)) ?_ (fun z hz => ⟨oth _ (by omega), oth _ (by omega)⟩), ?_, by omega⟩
  · rw [hA p y (by omega) (by omega) (by omega), fa5 p y (by omega)]
  · rw [hM p y (by omega) (by omega), fm5 p y (by omega) (by omega) (by omega)]
  · exact fun p u => i6 p (by omega)
  · exact fun p u1 u2 => j3 p (by omega)
  · rw [if_pos rfl, hA _ _ (by omega) (by omega) (by omega)]
    exact l9
  · rw [len, oth (1 + 2 * x) (by omega)]
    refine ⟨by rw [r3 _ _ (by omega) (by omega), i5 _ _ (by omega)]; exact v1, by rw [r3 _ _ (by omega) (by omega), i5 _ _ (by omega)]; exact v2, by rw [hM _ _ (by omega) (by omega)]; exact v3, by rw [hM _ _ (by omega) (by omega)]; exact v4, by rw [j3 _ (by omega)]; exact v5, cda c, va, Dda D (c 0 4) v.toInt64, xx, Cv_da v6 c4, ReC_f i4 (fun p y u1 u2 _ _ _ _ => r3 p y (by omega) (by omega)) rfl, ReM_f j5 (fun p y u1 u2 _ => fm7 p y (by omega) (by omega)) (fun _ _ _ => rfl), ClM_f j6 (fun p y u1 u2 _ => fm7 p y (by omega) (by omega)) (fun _ _ _ => rfl), v10, rfl, by rw [hM _ _ (by omega) (by omega)]; exact v12, v13⟩
  · rw [List.length_append]
    show 12 * (nl.length + 1) ≤ le + 1
    omega
/-! READING: the line of a signal -/
theorem c_addSig {fu S : Nat} {a1 a2 a3 a4 a5 a7 : Int32} {t : Bool} {A : mwM} {L : mwL} (h : A 61 10 = sI S) (hS : S < 40) : DX6_addSignal fu a1 a2 a3 a4 a5 (bI t) a7 A L = some (mset (mset (mset (mset (mset (mset (mset (mset A 69 S a1) 63 S a2) 64 S a3) 65 S a4) 66 S a5) 67 S (bI t)) 68 S a7) 61 10 (sI (S + 1)), L) := by
  unfold DX6_addSignal fX6_addSignal_b93
  rw [if_pos (show A 61 10 < 40 by rw [h, show (40 : Int32) = sI 40 from rfl, sI_lt (by omega) (by omega)]; exact hS)]
  simp (disch := omega) only [mset_n, h, mck_s, sI_nn, mlet_e, sI_1]
  cases t with
  | false => rw [bI_f, if_pos (show (0 : Int32) = 0 from rfl)]
  | true => rw [bI_t, if_neg (show ¬ (1 : Int32) = 0 by decide)]
theorem nar_b {t : Bool} : vp_nar .boolean (bI t) = bI t := by cases t <;> rfl
theorem st_signal {fu n le a b C T X S K R W : Nat} {A M : mwM} {Lc Lm : mwL} {tx : Nat → Nat} {nl : List Nm} {ow ct : Nat → Nat} {sg : Nat → Nat → Nat} {tu : Nat → Bool} {ky rd wt : Nat → Nat → Nat} (hfu : 6100 ≤ fu) (h : Ld A M n tx le a) (hP : PR A M Lc Lm n C T X S K R W nl ow ct sg tu ky rd wt) (hb : a < le → tx a = 32) (hl : 12 * nl.length + 6 ≤ a) (hk : 15 * K ≤ a) : RlQ A M Lc Lm n le (DX8_readSignal fu A Lc) (DX19_addSignal fu M Lm) := by
  obtain ⟨⟨c1, c2, c3⟩, pT, pX, pB, pS, pK, pR, pW, pN, nB⟩ := id hP
  have ha := h.2.2.2.2.2.2.2.1
  have hle := h.2.2.2.2.1
  have hn := h.1.2.1
  have hX12 := pX.2.2.1
  have hS40 := pS.2.2.1
  obtain ⟨A1, M1, f1, f2, hr⟩ := st_newName (fu := fu) (Lc := Lc) (Lm := Lm) (had := S) (most := 40) hfu h pN (by omega) (by omega)
  have fa1 : fWn A A1 := f1
  have fm1 : fG T S M M1 := fun x y u1 u2 u3 => f2 x y (by omega)
  unfold DX8_readSignal DX19_addSignal fX8_readSignal_b122 fX19_addSignal_b74 fX19_addSignal_b94
  rw [pS.1, pS.2.1]
  rcases hr with ⟨hc, hk1, e1, e2, hL, hH, w10, w11⟩ | ⟨e1, e2, hX⟩
  rotate_left
  · rw [show DX8_newName fu 0 (sI S) 40 A Lc = _ from e1, mb2_s, show DX19_newName fu (sI S) 40 M Lm = _ from e2, mb3_s, if_pos (show (0 : Int32) = 0 from rfl)]
    unfold DX8_dataOf
    simp only [nf_told (Fx_n hX), nf_number (Fx_n hX), nf_opt (Fx_n hX), nf_end (Fx_n hX), mb3_s, mb2_s, if_neg (Fx_n hX)]
    exact rl_bad hP (by omega) (by omega) fa1 fm1 hX rfl rfl
  obtain ⟨k1, k2, k3⟩ := nw_2 ha hb hk1
  obtain ⟨w8, w9, m9, m10, hlt⟩ := id hH
  rw [show DX8_newName fu 0 (sI S) 40 A Lc = _ from e1, mb2_s, show DX19_newName fu (sI S) 40 M Lm = _ from e2, mb3_s, if_neg (show ¬ (1 : Int32) = 0 by decide), mlet_e, mlet_e, m9, m10, sI_sub (by omega)]
  -- bits
  obtain ⟨A2, M2, f3, f4, hr⟩ := st_number (fu := fu) (Lc := Lc) (Lm := Lm) (a1 := sI 1) (a2 := sI 64) hfu hL
  have fa2 : fWn A A2 := fun x y u => by rw [f3 x y (by omega), fa1 x y u]
  have fm2 : fG T S M M2 := fun x y u1 u2 u3 => by rw [f4 x y (by omega), fm1 x y u1 u2 u3]
  rcases hr with ⟨hk2, z1, z2, z3, e3, e4, e5, hL2, _⟩ | ⟨e3, e4, hX⟩
  rotate_left
  · rw [show DX8_number fu 1 64 A1 Lc = _ from e3, mb3_s, show DX19_number fu 1 64 M1 Lm = _ from e4, mb3_s, if_pos (show (0 : Int32) = 0 from rfl)]
    unfold DX8_dataOf
    simp only [nf_told (Fx_n hX), nf_number (Fx_n hX), nf_opt (Fx_n hX), nf_end (Fx_n hX), mb3_s, mb2_s, if_neg (Fx_n hX)]
    exact rl_bad hP (by omega) (by omega) fa2 fm2 hX rfl rfl
  obtain ⟨bt, y1, y2, y3⟩ := nu_nat (lo := 1) (hi := 64) z1 z2 z3 (by omega) (by omega)
  rw [y1] at e3 e5
  obtain ⟨k4, k5, k6⟩ := nw_2 k2 k3 hk2
  have t2 : M2 732 45 = sI S := by rw [fm2 _ _ (by omega) (by omega) (by omega)]; exact pS.2.1
  rw [show DX8_number fu 1 64 A1 Lc = _ from e3, mb3_s, show DX19_number fu 1 64 M1 Lm = _ from e4, mb3_s, if_neg (show ¬ (1 : Int32) = 0 by decide), t2, mck_s hc (by omega), mlet_e, sI_nn (by omega), e5]
  have L2p : Ld A2 (mset M2 761 S (sI bt)) n tx le _ := Ld_n hL2 (fun p y u => mset_n (by omega))
  have fm2p : fG T S M (mset M2 761 S (sI bt)) := fun x y u1 u2 u3 => by rw [mset_n (by omega), fm2 x y u1 u2 u3]
  -- chart
  have N2 := NaR_f pN (A' := A2) (M' := mset M2 761 S (sI bt)) (fun x y u => fa2 x y (by omega)) (fun x y u => fm2p x y (by omega) (by omega) (by omega))
  obtain ⟨A3, M3, f5, f6, hr⟩ := st_told (fu := fu) (Lc := Lc) (Lm := Lm) (k := 2) hfu L2p N2 (by omega)
  have fa3 : fWn A A3 := fun x y u => by rw [f5 x y (by omega), fa2 x y u]
  have fm3 : fG T S M M3 := fun x y u1 u2 u3 => by rw [f6 x y (by omega), fm2p x y u1 u2 u3]
  rcases hr with ⟨q, q1, q2, q3, hk3, e6, e7, hL3, _⟩ | ⟨e6, e7, hX⟩
  rotate_left
  · rw [show DX8_toldName fu 0 2 A2 Lc = _ from e6, mb3_s, show DX19_named fu 3 (mset M2 761 S (sI bt)) Lm = _ from e7, mb3_s, if_neg (show ¬ (0 : Int32) ≤ -1 by decide), if_pos (show (-1 : Int32) < 0 by decide)]
    unfold DX8_dataOf
    simp only [nf_told (Fx_n hX), nf_number (Fx_n hX), nf_opt (Fx_n hX), nf_end (Fx_n hX), mb3_s, mb2_s, if_neg (Fx_n hX)]
    exact rl_bad hP (by omega) (by omega) fa3 fm3 hX rfl rfl
  have hx : q.2.2.2.2 < X := by
    rcases (nB.2 q q1).2 q2 with g | g | g | g <;> omega
  obtain ⟨k7, k8, k9⟩ := nw_2 k5 k6 hk3
  rw [show DX8_toldName fu 0 2 A2 Lc = _ from e6, mb3_s, show DX19_named fu 3 (mset M2 761 S (sI bt)) Lm = _ from e7, mb3_s, if_pos (ge_s (by omega)), da_of, mb3_s]
  generalize hx' : q.2.2.2.2 = x at *
  -- datum
  have N3 := NaR_f pN (A' := A3) (M' := M3) (fun x y u => fa3 x y (by omega)) (fun x y u => fm3 x y (by omega) (by omega) (by omega))
  obtain ⟨A4, M4, f7, f8, hr⟩ := st_dat (fu := fu) (Lc := Lc) (Lm := Lm) hfu hL3 N3 hx
  have fa4 : fWn A A4 := fun x y u => by rw [f7 x y (by omega), fa3 x y u]
  have fm4 : fG T S M M4 := fun x y u1 u2 u3 => by rw [f8 x y (by omega), fm3 x y u1 u2 u3]
  rcases hr with ⟨d, hd, hk4, e8, e9, hL4, _⟩ | ⟨e8, e9, hX⟩
  rotate_left
  · rw [e8, mb3_s, e9, mb3_s, if_pos (show (-1 : Int32) < 0 by decide)]
    simp only [nf_number (Fx_n hX), nf_opt (Fx_n hX), nf_end (Fx_n hX), mb3_s, mb2_s, if_neg (Fx_n hX)]
    exact rl_bad hP (by omega) (by omega) fa4 fm4 hX rfl rfl
  have hd32 := (N3.2.2.2.2 x hx).2.2.1
  obtain ⟨k10, k11, k12⟩ := nw_2 k8 k9 hk4
  rw [e8, mb3_s, e9, mb3_s, if_neg (ns_s (by omega))]
  -- period
  obtain ⟨A5, M5, f9, f10, hr⟩ := st_number (fu := fu) (Lc := Lc) (Lm := Lm) (a1 := sI 500) (a2 := sI 20000) hfu hL4
  have fa5 : fWn A A5 := fun x y u => by rw [f9 x y (by omega), fa4 x y u]
  have fm5 : fG T S M M5 := fun x y u1 u2 u3 => by rw [f10 x y (by omega), fm4 x y u1 u2 u3]
  rcases hr with ⟨hk5, z1, z2, z3, e10, e11, e12, hL5, _⟩ | ⟨e10, e11, hX⟩
  rotate_left
  · rw [show DX8_number fu 500 20000 A4 Lc = _ from e10, mb3_s, show DX19_number fu 500 20000 M4 Lm = _ from e11, mb3_s, if_pos (show (0 : Int32) = 0 from rfl)]
    simp only [nf_opt (Fx_n hX), nf_end (Fx_n hX), mb3_s, mb2_s, if_neg (Fx_n hX)]
    exact rl_bad hP (by omega) (by omega) fa5 fm5 hX rfl rfl
  obtain ⟨pe, y4, y5, y6⟩ := nu_nat (lo := 500) (hi := 20000) z1 z2 z3 (by omega) (by omega)
  rw [y4] at e10 e12
  have t5 : M5 732 45 = sI S := by rw [fm5 _ _ (by omega) (by omega) (by omega)]; exact pS.2.1
  rw [show DX8_number fu 500 20000 A4 Lc = _ from e10, mb3_s, show DX19_number fu 500 20000 M4 Lm = _ from e11, mb3_s, if_neg (show ¬ (1 : Int32) = 0 by decide), t5, mck_s hc (by omega), mlet_e, sI_nn (k := S) (by omega), e12]
  have L5p : Ld A5 (mset M5 764 S (sI pe)) n tx le _ := Ld_n hL5 (fun p y u => mset_n (by omega))
  have fm5p : fG T S M (mset M5 764 S (sI pe)) := fun x y u1 u2 u3 => by rw [mset_n (by omega), fm5 x y u1 u2 u3]
  -- turned
  obtain ⟨tn, A6, M6, e13, e14, f11, f12, hh⟩ := st_optEnd (fu := fu) (i := 5) (Lc := Lc) (Lm := Lm) hfu L5p ok_turned ch_turned rfl (by decide)
  obtain ⟨A7, M7, f13, f14, hr⟩ := hh (mset M6 765 S (bI tn)) (fun x y u => mset_n (by omega))
  have fa7 : fWn A A7 := fun x y u => by rw [f13 x y (by omega), f11 x y (by omega), fa5 x y u]
  have fm7 : fG T S M M7 := fun x y u1 u2 u3 => by rw [f14 x y (by omega), mset_n (by omega), f12 x y (by omega), fm5p x y u1 u2 u3]
  rw [e13, mb3_s, e14, mb3_s, mset_n (show ¬ (732 = 764 ∧ 45 = S) by omega), t5, mck_s hc (by omega), mlet_e, nar_b, sI_nn (k := S) (by omega)]
  rcases hr with ⟨e15, e16, a3, ha3, hL7⟩ | ⟨e15, e16, hX⟩
  rotate_left
  · rw [e15, mb2_s, if_neg (Fx_n hX), e16, mb3_s, if_pos (show (0 : Int32) = 0 from rfl)]
    exact rl_bad hP (by omega) (by omega) fa7 fm7 hX rfl rfl
  have l9 := hL7.2.2.2.2.2.2.2.2
  have r1 : M7 761 S = sI bt := by rw [f14 _ _ (by omega), mset_n (by omega), f12 _ _ (by omega), mset_n (by omega), f10 _ _ (by omega), f8 _ _ (by omega), f6 _ _ (by omega), mset_s]
  have r4 : M7 764 S = sI pe := by rw [f14 _ _ (by omega), mset_n (by omega), f12 _ _ (by omega), mset_s]
  have r5 : M7 765 S = bI tn := by rw [f14 _ _ (by omega), mset_s]
  have hP2 := PR_f hP (A' := A7) (M' := M7) (fun a y u => fa7 a y (by omega)) (fun a y u1 u2 u3 => fm7 a y (by omega) u2 u3)
  obtain ⟨⟨c1', c2', c3'⟩, pT', pX', pB', pS', pK', pR', pW', pN', nB'⟩ := hP2
  have nl0 := nB.1
  obtain ⟨s1, s2, s3, s4⟩ := id pS'
  generalize hM8 : mset (mset (mset M7 760 S (sI (nwB tx le a))) 762 S (sI x)) 763 S (sI d) = M8
  have fm8 : ∀ x y, ¬ ((x = 760 ∨ x = 762 ∨ x = 763) ∧ y = S) → M8 x y = M7 x y := fun x y u => by rw [← hM8, mset_n (by omega), mset_n (by omega), mset_n (by omega)]
  have u0 : M8 760 S = sI (nwB tx le a) := by rw [← hM8, mset_n (by omega), mset_n (by omega), mset_s]
  have u2 : M8 762 S = sI x := by rw [← hM8, mset_n (by omega), mset_s]
  have u3 : M8 763 S = sI d := by rw [← hM8, mset_s]
  have N8 := NaR_f pN' (A' := A7) (M' := M8) (fun _ _ _ => rfl) (fun x y u => fm8 x y (by omega))
  have q10 : A7 1 10 = sI (nwB tx le a) := by rw [f13 _ _ (by omega), f11 _ _ (by omega), f9 _ _ (by omega), f7 _ _ (by omega), f5 _ _ (by omega), f3 _ _ (by omega)]; exact w10
  have q11 : A7 1 11 = sI (nwE tx le a - nwB tx le a) := by rw [f13 _ _ (by omega), f11 _ _ (by omega), f9 _ _ (by omega), f7 _ _ (by omega), f5 _ _ (by omega), f3 _ _ (by omega)]; exact w11
  obtain ⟨A9, M9, g1, g2, g3, g4, g5⟩ := st_keep (fu := fu) (w := nwB tx le a) (s := nwE tx le a - nwB tx le a) (k := 3) (v := S) (Lc := Lc) (Lm := Lm) N8 l9 q10 q11 (by omega) (by omega) (by omega) (by have := pT.2.2.1; omega) (by omega) (by omega)
  have own : A9 (293 + 36 * x + 0) 5 = sI (ow (ct x)) := by
    rw [show 293 + 36 * x + 0 = 293 + 36 * x from rfl, g4 _ _ (by omega) (by omega)]
    exact (pX'.2.2.2.1 x hx).2.2.1
  rw [e15, mb2_s, if_pos l9, s1, show DX8_keepName fu 0 3 (sI S) A7 Lc = _ from g1, mb2_s, mck_s (show x < 12 by omega) (by omega), sI_nn (by omega), own, g4 1 10 (by omega) (by omega), q10, c_addSig (S := S) (by rw [g4 _ _ (by omega) (by omega)]; exact s1) hc, mb2_s, e16, mb3_s, if_neg (show ¬ (1 : Int32) = 0 by decide)]
  have Rr : mck (M7 732 45) 40 (mlet (mset M7 760 ((M7 732 45).toNatClampNeg) (sI (nwB tx le a))) (fun M18 => mck (M18 732 45) 40 (mlet (mset M18 762 ((M18 732 45).toNatClampNeg) (sI x)) (fun M20 => mck (M20 732 45) 40 (mlet (mset M20 763 ((M20 732 45).toNatClampNeg) (sI d)) (fun M22 => mb2 (DX19_addName fu (sI (nwB tx le a)) (sI (nwE tx le a - nwB tx le a)) 4 (M22 732 45) M22 Lm) (fun M23 L24 => mlet (mset M23 732 45 ((M23 732 45) + 1)) (fun M25 => some ((1 : Int32), M25, L24))))))))) = some (1, mset M9 732 45 (sI (S + 1)), Lm) := by
    simp (disch := omega) only [mset_n, s2, mck_s, sI_nn, mlet_e]
    rw [hM8, show DX19_addName fu (sI (nwB tx le a)) (sI (nwE tx le a - nwB tx le a)) 4 (sI S) M8 Lm = _ from g2, mb2_s, g5 _ _ (by omega) (by omega), fm8 _ _ (by omega), s2, sI_1]
  rw [Rr]
  generalize hA0 : mset (mset (mset (mset (mset (mset (mset (mset A9 69 S (sI (nwB tx le a))) 63 S (sI bt)) 64 S (sI x)) 65 S (sI d)) 66 S (sI pe)) 67 S (bI tn)) 68 S (sI (ow (ct x)))) 61 10 (sI (S + 1)) = A0
  have hA4 : ∀ x y, ¬ (x = 61 ∧ y = 10) → ¬ (63 ≤ x ∧ x ≤ 69 ∧ y = S) → ¬ (x = 1 ∧ y = 3) → ¬ (726 ≤ x ∧ x ≤ 730) → A0 x y = A7 x y := fun x y u1 u2 u3 u4 => by
    rw [← hA0]
    simp (disch := omega) only [mset_n]
    exact g4 x y u3 u4
  have hM4 : ∀ x y, ¬ (x = 732 ∧ y = 45) → ¬ (x = 732 ∧ y = 14) → ¬ (734 ≤ x ∧ x ≤ 737) → ¬ ((x = 760 ∨ x = 762 ∨ x = 763) ∧ y = S) → mset M9 732 45 (sI (S + 1)) x y = M7 x y := fun x y u1 u2 u3 u4 => by rw [mset_n (by omega), g5 x y u2 u3, fm8 x y u4]
  have hM5 : ∀ x y, 760 ≤ x → x ≤ 765 → mset M9 732 45 (sI (S + 1)) x y = M8 x y := fun x y u1 u2 => by rw [mset_n (by omega), g5 x y (by omega) (by omega)]
  refine ⟨A0, _, Lc, Lm, true, rfl, rfl, ⟨fun p y u => ?_, fun p y u => ?_, ?_, ?_⟩, ?_, C, T, X, S + 1, K, R, W, nl ++ [(0, nwB tx le a, nwE tx le a - nwB tx le a, 3, S)], ow, ct, fun i s => if s = S then (if i = 0 then bt else if i = 1 then pe else if i = 2 then x else if i = 3 then d else nwB tx le a) else sg i s, fun s => if s = S then tn else tu s, ky, rd, wt, ⟨⟨by rw [hA4 _ _ (by omega) (by omega) (by omega) (by omega)]; exact c1', by rw [hM4 _ _ (by omega) (by omega) (by omega) (by omega)]; exact c2', c3⟩, PrT_f pT' (fun x y u => hA4 x y (by omega) (by omega) (by omega) (by omega)) (fun x y u => hM4 x y (by omega) (by omega) (by omega) (by omega)), PrX_n (PrX_f pX' (fun x y u => hA4 x y (by omega) (by omega) (by omega) (by omega)) (fun x y u => hM4 x y (by omega) (by omega) (by omega) (by omega)) (fun _ _ _ => rfl) (fun _ _ => rfl)) rfl, PrB_f pB' (fun x u1 u2 => hM4 x 0 (by omega) (by omega) (by omega) (by omega)) (fun _ _ _ _ _ => rfl) (fun _ _ _ _ _ => rfl), ?_, PrK_f pK' (fun x y u => hA4 x y (by omega) (by omega) (by omega) (by omega)) (fun x y u => hM4 x y (by omega) (by omega) (by omega) (by omega)), ?_, ?_, NaR_f g3 (fun x y u => by
      rw [← hA0]
      simp (disch := omega) only [mset_n]) (fun x y u => mset_n (by omega)), NmB_0 nB rfl (by omega) (by omega) (by omega) (by omega) (by omega) (Or.inr (Or.inr (Or.inr ⟨rfl, by show S < S + 1; omega⟩)))⟩, ?_, by omega⟩
  · rw [hA4 p y (by omega) (by omega) (by omega) (by omega), fa7 p y (by omega)]
  · rw [hM4 p y (by omega) (by omega) (by omega) (by omega), fm7 p y (by omega) (by omega) (by omega)]
  · exact fun _ _ => rfl
  · exact fun _ _ _ => rfl
  · rw [if_pos rfl, hA4 _ _ (by omega) (by omega) (by omega) (by omega)]
    exact l9
  · refine ⟨by rw [← hA0, mset_s], mset_s, by omega, fun s hs => ?_⟩
    dsimp only
    by_cases ci : s = S
    · subst ci
      simp only [if_pos]
      rw [hM5 _ _ (by omega) (by omega), hM5 _ _ (by omega) (by omega), hM5 _ _ (by omega) (by omega), hM5 _ _ (by omega) (by omega), hM5 _ _ (by omega) (by omega), hM5 _ _ (by omega) (by omega), u0, u2, u3, fm8 761 s (by omega), fm8 764 s (by omega), fm8 765 s (by omega), r1, r4, r5]
      refine ⟨⟨?_, rfl, y2, y3⟩, ⟨?_, rfl, y5, y6⟩, ⟨?_, rfl, hx⟩, ⟨?_, rfl, by show d < 32; omega⟩, ⟨?_, rfl⟩, ?_, ?_, rfl, ?_⟩
      · rw [← hA0]
        simp (disch := omega) only [mset_n, mset_s]
      · rw [← hA0]
        simp (disch := omega) only [mset_n, mset_s]
        rfl
      · rw [← hA0]
        simp (disch := omega) only [mset_n, mset_s]
        rfl
      · rw [← hA0]
        simp (disch := omega) only [mset_n, mset_s]
        rfl
      · rw [← hA0]
        simp (disch := omega) only [mset_n, mset_s]
      · rw [← hA0]
        simp (disch := omega) only [mset_n, mset_s]
        rfl
      · rw [← hA0]
        simp (disch := omega) only [mset_n, mset_s]
        rfl
      · show nwB tx le a ≤ n
        omega
    · have := s4 s (by omega)
      rw [if_neg ci, if_neg ci, if_neg ci, if_neg ci, if_neg ci, if_neg ci, hA4 _ _ (by omega) (by omega) (by omega) (by omega), hA4 _ _ (by omega) (by omega) (by omega) (by omega), hA4 _ _ (by omega) (by omega) (by omega) (by omega), hA4 _ _ (by omega) (by omega) (by omega) (by omega), hA4 _ _ (by omega) (by omega) (by omega) (by omega), hA4 _ _ (by omega) (by omega) (by omega) (by omega), hA4 _ _ (by omega) (by omega) (by omega) (by omega), hM4 _ _ (by omega) (by omega) (by omega) (by omega), hM4 _ _ (by omega) (by omega) (by omega) (by omega), hM4 _ _ (by omega) (by omega) (by omega) (by omega), hM4 _ _ (by omega) (by omega) (by omega) (by omega), hM4 _ _ (by omega) (by omega) (by omega) (by omega), hM4 _ _ (by omega) (by omega) (by omega) (by omega)]
      exact this
  · obtain ⟨d1, d2, d3, d4⟩ := RdR_f pR' (A' := A0) (M' := mset M9 732 45 (sI (S + 1))) (Lc' := Lc) (Lm' := Lm) (fun x y u => hA4 x y (by omega) (by omega) (by omega) (by omega)) (fun x y u => hM4 x y (by omega) (by omega) (by omega) (by omega)) (fun _ => rfl) (fun _ => rfl)
    refine ⟨d1, d2, d3, fun r hr => ?_⟩
    obtain ⟨v1, v2, v3, v4⟩ := d4 r hr
    exact ⟨v1, v2, by omega, v4⟩
  · obtain ⟨⟨b1, b2, b3, b4⟩, b5, b6, b7⟩ := PrW_f pW' (A' := A0) (M' := mset M9 732 45 (sI (S + 1))) (Lm' := Lm) (fun x y u1 u2 => hA4 x y (by omega) (by omega) (by omega) (by omega)) (fun x y u => hM4 x y (by omega) (by omega) (by omega) (by omega)) (fun _ => rfl)
    refine ⟨⟨b1, b2, b3, fun w hw => ?_⟩, b5, fun w hw => ?_, b7⟩
    · obtain ⟨v1, v2, v3, v4⟩ := b4 w hw
      exact ⟨v1, v2, by omega, v4⟩
    · obtain ⟨v1, v2, v3, v4⟩ := b4 w hw
      rw [b6 w hw]
      dsimp only
      rw [if_neg (by omega)]
  · rw [List.length_append]
    show 12 * (nl.length + 1) ≤ le + 1
    omega
/-! READING: the line of a key -/
theorem nu_len {tx : Nat → Nat} {w s hi : Nat} (hb : nuB tx w s = true) (h1 : ¬ nuV tx w s < sI 500) (h2 : nuV tx w s ≤ sI hi) (hhi : hi < 2000000000) : 3 ≤ s := by
  obtain ⟨v, e, v1, v2⟩ := nu_nat (lo := 500) hb h1 h2 (by omega) hhi
  obtain ⟨d1, d2, d3⟩ := of_decide_eq_true hb
  have hv := hv_lt (tx := tx) (b := w + sgN tx w) (s - sgN tx w) d3
  have h9 : 10 ^ (s - sgN tx w) ≤ 10 ^ 9 := Nat.pow_le_pow_right (by omega) d2
  unfold nuV at e
  by_cases c3 : 3 ≤ s
  · exact c3
  exfalso
  have hlt : 10 ^ (s - sgN tx w) ≤ 10 ^ 2 := Nat.pow_le_pow_right (by omega) (by omega)
  generalize hvN tx (w + sgN tx w) (s - sgN tx w) = u at hv e
  by_cases c : tx w = 45
  · rw [if_pos c] at e
    have t1 : (sI u).toInt = u := sI_toInt (by omega)
    have t3 : (-(sI u)).toInt = -(u : Int) := by
      rw [Int32.toInt_neg, t1]
      exact Int.bmod_eq_of_le (by omega) (by omega)
    have t4 : (sI v).toInt = v := sI_toInt (by omega)
    rw [e, t4] at t3
    omega
  · rw [if_neg c, sI_eq (by omega) (by omega)] at e
    omega
theorem c_addKey {fu K : Nat} {a1 a2 a3 : Int32} {A : mwM} {L : mwL} (h : A 61 12 = sI K) (hK : K < 400) : DX6_addKey fu a1 a2 a3 A L = some (mset (mset (mset (mset A 82 K a1) 83 K a2) 84 K a3) 61 12 (sI (K + 1)), L) := by
  unfold DX6_addKey
  rw [if_pos (show A 61 12 < 400 by rw [h, show (400 : Int32) = sI 400 from rfl, sI_lt (by omega) (by omega)]; exact hK)]
  simp (disch := omega) only [mset_n, h, mck_s, sI_nn, mlet_e, sI_1]
theorem st_protect {fu n le a b C T X S K R W : Nat} {A M : mwM} {Lc Lm : mwL} {tx : Nat → Nat} {nl : List Nm} {ow ct : Nat → Nat} {sg : Nat → Nat → Nat} {tu : Nat → Bool} {ky rd wt : Nat → Nat → Nat} (hfu : 6100 ≤ fu) (h : Ld A M n tx le a) (hP : PR A M Lc Lm n C T X S K R W nl ow ct sg tu ky rd wt) (hb : a < le → tx a = 32) (hl : 12 * nl.length ≤ a) (hk : 15 * K + 7 ≤ a) : RlQ A M Lc Lm n le (DX8_readProtect fu A Lc) (DX19_addKey fu M Lm) := by
  obtain ⟨⟨c1, c2, c3⟩, pT, pX, pB, pS, pK, pR, pW, pN, nB⟩ := id hP
  have ha := h.2.2.2.2.2.2.2.1
  have hle := h.2.2.2.2.1
  have hn := h.1.2.1
  obtain ⟨A1, M1, f1, f2, hr⟩ := st_told (fu := fu) (Lc := Lc) (Lm := Lm) (k := 0) hfu h pN (by omega)
  have fa1 : fWn A A1 := fun x y u => f1 x y (by omega)
  have fm1 : fG T S M M1 := fun x y u1 u2 u3 => f2 x y (by omega)
  unfold DX8_readProtect DX19_addKey fX8_readProtect_b64 fX8_readProtect_b85 fX19_addKey_b23 fX19_addKey_b52
  rcases hr with ⟨q, q1, q2, q3, hk1, e1, e2, hL1, hH1⟩ | ⟨e1, e2, hX⟩
  rotate_left
  · rw [show DX8_toldName fu 0 0 A Lc = _ from e1, mb3_s, show DX19_named fu 1 M Lm = _ from e2, mb3_s, if_pos (show (-1 : Int32) < 0 by decide)]
    simp only [nf_number (Fx_n hX), nf_end (Fx_n hX), mb3_s, mb2_s, mlet_e, if_neg (Fx_n hX)]
    exact rl_bad hP (by omega) (by omega) fa1 fm1 hX rfl rfl
  have hco : q.2.2.2.2 < C := by
    rcases (nB.2 q q1).2 q2 with g | g | g | g <;> omega
  obtain ⟨k1, k2, k3⟩ := nw_2 ha hb hk1
  rw [show DX8_toldName fu 0 0 A Lc = _ from e1, mb3_s, show DX19_named fu 1 M Lm = _ from e2, mb3_s, if_neg (ns_s (by omega))]
  generalize hco' : q.2.2.2.2 = co at *
  obtain ⟨A2, M2, f3, f4, hr⟩ := st_number (fu := fu) (Lc := Lc) (Lm := Lm) (a1 := sI 500) (a2 := sI 20000) hfu hL1
  have fa2 : fWn A A2 := fun x y u => by rw [f3 x y (by omega), fa1 x y u]
  have fm2 : fG T S M M2 := fun x y u1 u2 u3 => by rw [f4 x y (by omega), fm1 x y u1 u2 u3]
  rcases hr with ⟨hk2, z1, z2, z3, e3, e4, e5, hL2, hH2⟩ | ⟨e3, e4, hX⟩
  rotate_left
  · rw [show DX8_number fu 500 20000 A1 Lc = _ from e3, mb3_s, show DX19_number fu 500 20000 M1 Lm = _ from e4, mb3_s, if_pos (show (0 : Int32) = 0 from rfl)]
    simp only [nf_number (Fx_n hX), nf_end (Fx_n hX), mb3_s, mb2_s, mlet_e, if_neg (Fx_n hX)]
    exact rl_bad hP (by omega) (by omega) fa2 fm2 hX rfl rfl
  obtain ⟨pe, y1, y2, y3⟩ := nu_nat (lo := 500) (hi := 20000) z1 z2 z3 (by omega) (by omega)
  have hs3 := nu_len z1 z2 z3 (by omega)
  rw [y1] at e3 e5
  obtain ⟨k4, k5, k6⟩ := nw_2 k2 k3 hk2
  have k4' : nwE tx le a < nwB tx le (nwE tx le a) := by
    have hh := nw_b (tx := tx) k2
    have : nwB tx le (nwE tx le a) < le := (of_decide_eq_true hk2).1
    exact hh.2.2.2.2.2.2.1 hk2 (k3 (by omega))
  obtain ⟨w8, w9, m9, m10, hlt⟩ := id hH2
  rw [show DX8_number fu 500 20000 A1 Lc = _ from e3, mb3_s, mlet_e, w8, show DX19_number fu 500 20000 M1 Lm = _ from e4, mb3_s, if_neg (show ¬ (1 : Int32) = 0 by decide), mlet_e, mlet_e, e5, m9]
  obtain ⟨A3, M3, f5, f6, hr⟩ := st_number (fu := fu) (Lc := Lc) (Lm := Lm) (a1 := sI 1) (a2 := sI 16) hfu hL2
  have fa3 : fWn A A3 := fun x y u => by rw [f5 x y (by omega), fa2 x y u]
  have fm3 : fG T S M M3 := fun x y u1 u2 u3 => by rw [f6 x y (by omega), fm2 x y u1 u2 u3]
  rcases hr with ⟨hk3, z1, z2, z3, e6, e7, e8, hL3, _⟩ | ⟨e6, e7, hX⟩
  rotate_left
  · rw [show DX8_number fu 1 16 A2 Lc = _ from e6, mb3_s, show DX19_number fu 1 16 M2 Lm = _ from e7, mb3_s, if_pos (show (0 : Int32) = 0 from rfl)]
    simp only [nf_end (Fx_n hX), mb3_s, mb2_s, if_neg (Fx_n hX)]
    exact rl_bad hP (by omega) (by omega) fa3 fm3 hX rfl rfl
  obtain ⟨v, y4, y5, y6⟩ := nu_nat (lo := 1) (hi := 16) z1 z2 z3 (by omega) (by omega)
  rw [y4] at e6 e8
  obtain ⟨k7, k8, k9⟩ := nw_2 k5 k6 hk3
  rw [show DX8_number fu 1 16 A2 Lc = _ from e6, mb3_s, show DX19_number fu 1 16 M2 Lm = _ from e7, mb3_s, if_neg (show ¬ (1 : Int32) = 0 by decide)]
  obtain ⟨A4, M4, f7, f8, hr⟩ := st_eol (fu := fu) (Lc := Lc) (Lm := Lm) hfu hL3
  have fa4 : fWn A A4 := fun x y u => by rw [f7 x y (by omega), fa3 x y u]
  have fm4 : fG T S M M4 := fun x y u1 u2 u3 => by rw [f8 x y (by omega), fm3 x y u1 u2 u3]
  rcases hr with ⟨hk4, e9, e10, hL4⟩ | ⟨e9, e10, hX⟩
  rotate_left
  · rw [e9, mb2_s, if_neg (Fx_n hX), if_neg (Fx_n hX), e10, mb3_s, if_pos (show (0 : Int32) = 0 from rfl)]
    exact rl_bad hP (by omega) (by omega) fa4 fm4 hX rfl rfl
  have l9 := hL4.2.2.2.2.2.2.2.2
  have m13 : M4 732 13 = sI v := by rw [f8 _ _ (by omega)]; exact e8
  have hP4 := PR_f hP (A' := A4) (M' := M4) (fun a y u => fa4 a y (by omega)) (fun a y u1 u2 u3 => fm4 a y (by omega) u2 u3)
  obtain ⟨⟨c1', c2', c3'⟩, pT', pX', pB', pS', ⟨kC, kM, kk⟩, pR', pW', pN', nB'⟩ := hP4
  have ck := c_keyOf (fu := fu) (c := co) (p := pe) (L := Lc) (by omega) kC (by omega) y3
  have mk := m_keyOf (fu := fu) (c := co) (p := pe) (L := Lm) (by omega) kM (by omega) y3
  have kv16 : kyf (ky 0) (ky 1) (ky 2) co pe K 0 ≤ 16 := kyf_le K 0 (fun j hj => (kC.2.2 j (by omega)).2.2.2.2.2)
  generalize kyf (ky 0) (ky 1) (ky 2) co pe K 0 = kv at ck mk kv16
  rw [e9, mb2_s, if_pos l9, ck, mb3_s, e10, mb3_s, if_neg (show ¬ (1 : Int32) = 0 by decide), mk, mb3_s]
  by_cases ckv : kv = 0
  rotate_left
  · have hX : Fx (mset (mset A4 1 12 3) 1 13 (sI (nwB tx le (nwE tx le a)))) (mset (mset M4 732 11 3) 732 12 (sI (nwB tx le (nwE tx le a)))) := Fx_i (k := 3) (by omega) (by omega) (by have := (nw_b (tx := tx) k2).2.1; omega)
    rw [if_neg (show ¬ sI kv = 0 by rw [show (0 : Int32) = sI 0 from rfl, sI_eq (by omega) (by omega)]; exact ckv), c_fail l9, mb2_s, if_neg (Fx_n hX), if_neg (show ¬ sI kv ≤ 0 by rw [show (0 : Int32) = sI 0 from rfl, sI_le (by omega) (by omega)]; omega), m_fail, mb3_s]
    exact rl_bad hP (by omega) (by omega) (fun x y u => by rw [mset_n (by omega), mset_n (by omega), fa4 x y u]) (fun x y u1 u2 u3 => by rw [mset_n (by omega), mset_n (by omega), fm4 x y u1 u2 u3]) hX rfl rfl
  subst ckv
  obtain ⟨kC1, kC2, kC3⟩ := kC
  obtain ⟨kM1, kM2, kM3⟩ := kM
  rw [if_pos (show sI 0 = (0 : Int32) from rfl), if_pos l9, c_addKey kC1 (by omega), mb2_s, if_pos (show sI 0 ≤ (0 : Int32) by decide)]
  have Rr : mck (M4 732 20) 600 (mlet (mset M4 738 ((M4 732 20).toNatClampNeg) (sI co)) (fun M24 => mck (M24 732 20) 600 (mlet (mset M24 739 ((M24 732 20).toNatClampNeg) (sI pe)) (fun M26 => mck (M26 732 20) 600 (mlet (mset M26 740 ((M26 732 20).toNatClampNeg) (M26 732 13)) (fun M28 => mlet (mset M28 732 20 ((M28 732 20) + 1)) (fun M29 => some ((1 : Int32), M29, Lm)))))))) = some (1, mset (mset (mset (mset M4 738 K (sI co)) 739 K (sI pe)) 740 K (sI v)) 732 20 (sI (K + 1)), Lm) := by
    simp (disch := omega) only [mset_n, kM1, m13, mck_s, sI_nn, mlet_e, sI_1]
  rw [Rr]
  generalize hA0 : mset (mset (mset (mset A4 82 K (sI co)) 83 K (sI pe)) 84 K (sI v)) 61 12 (sI (K + 1)) = A0
  generalize hM0 : mset (mset (mset (mset M4 738 K (sI co)) 739 K (sI pe)) 740 K (sI v)) 732 20 (sI (K + 1)) = M0
  have hA4 : ∀ x y, ¬ (x = 61 ∧ y = 12) → ¬ (82 ≤ x ∧ x ≤ 84 ∧ y = K) → A0 x y = A4 x y := fun x y u1 u2 => by
    rw [← hA0]
    simp (disch := omega) only [mset_n]
  have hM4 : ∀ x y, ¬ (x = 732 ∧ y = 20) → ¬ (738 ≤ x ∧ x ≤ 740 ∧ y = K) → M0 x y = M4 x y := fun x y u1 u2 => by
    rw [← hM0]
    simp (disch := omega) only [mset_n]
  refine ⟨A0, M0, Lc, Lm, true, rfl, rfl, ⟨fun p y u => ?_, fun p y u => ?_, ?_, ?_⟩, ?_, C, T, X, S, K + 1, R, W, nl, ow, ct, sg, tu, fun i j => if j = K then (if i = 0 then co else if i = 1 then pe else v) else ky i j, rd, wt, ⟨⟨by rw [hA4 _ _ (by omega) (by omega)]; exact c1', by rw [hM4 _ _ (by omega) (by omega)]; exact c2', c3⟩, PrT_f pT' (fun x y u => hA4 x y (by omega) (by omega)) (fun x y u => hM4 x y (by omega) (by omega)), PrX_f pX' (fun x y u => hA4 x y (by omega) (by omega)) (fun x y u => hM4 x y (by omega) (by omega)) (fun _ _ _ => rfl) (fun _ _ => rfl), PrB_f pB' (fun x u1 u2 => hM4 x 0 (by omega) (by omega)) (fun _ _ _ _ _ => rfl) (fun _ _ _ _ _ => rfl), PrS_f pS' (fun x y u => hA4 x y (by omega) (by omega)) (fun x y u => hM4 x y (by omega) (by omega)), ⟨⟨by rw [← hA0, mset_s], by omega, fun i hi => ?_⟩, ⟨by rw [← hM0, mset_s], by omega, fun i hi => ?_⟩, fun i hi => ?_⟩, RdR_f pR' (fun x y u => hA4 x y (by omega) (by omega)) (fun x y u => hM4 x y (by omega) (by omega)) (fun _ => rfl) (fun _ => rfl), PrW_f pW' (fun x y u1 u2 => hA4 x y (by omega) (by omega)) (fun x y u => hM4 x y (by omega) (by omega)) (fun _ => rfl), NaR_f pN' (fun x y u => hA4 x y (by omega) (by omega)) (fun x y u => hM4 x y (by omega) (by omega)), nB⟩, by omega, by omega⟩
  · rw [hA4 p y (by omega) (by omega), fa4 p y (by omega)]
  · rw [hM4 p y (by omega) (by omega), fm4 p y (by omega) (by omega) (by omega)]
  · exact fun _ _ => rfl
  · exact fun _ _ _ => rfl
  · rw [if_pos rfl, hA4 _ _ (by omega) (by omega)]
    exact l9
  · dsimp only
    by_cases ci : i = K
    · subst ci
      rw [← hA0]
      simp (disch := omega) only [mset_n, mset_s]
      exact ⟨rfl, rfl, rfl, by show co < 6; omega, by show pe ≤ 20000; omega, by show v ≤ 16; omega⟩
    · rw [if_neg ci, if_neg ci, if_neg ci, hA4 _ _ (by omega) (by omega), hA4 _ _ (by omega) (by omega), hA4 _ _ (by omega) (by omega)]
      exact kC3 i (by omega)
  · dsimp only
    by_cases ci : i = K
    · subst ci
      rw [← hM0]
      simp (disch := omega) only [mset_n, mset_s]
      exact ⟨rfl, rfl, rfl, by show co < 6; omega, by show pe ≤ 20000; omega, by show v ≤ 16; omega⟩
    · rw [if_neg ci, if_neg ci, if_neg ci, hM4 _ _ (by omega) (by omega), hM4 _ _ (by omega) (by omega), hM4 _ _ (by omega) (by omega)]
      exact kM3 i (by omega)
  · dsimp only
    by_cases ci : i = K
    · rw [if_pos ci]
      exact y5
    · rw [if_neg ci]
      exact kk i (by omega)
/-! READING: the line of a read -/
theorem nf_ref {fu : Nat} {a1 a2 : Int32} {A : mwM} {L : mwL} (h : ¬ A 1 12 = 0) : DX8_refuseOwn fu a1 a2 A L = some (A, L) := by
  unfold DX8_refuseOwn
  rw [if_neg h]
  rfl
theorem nf_refT {fu : Nat} {a1 a2 : Int32} {A : mwM} {L : mwL} {F : mwM → mwL → Option (mwM × mwL)} (h : ¬ A 1 12 = 0) (hF : F A L = some (A, L)) : mck 0 12 (mb2 (DX8_refuseOwn fu a1 a2 A L) F) = some (A, L) := by
  rw [nf_ref h, mb2_s, hF, show (0 : Int32) = sI 0 from rfl, mck_s (by omega) (by omega)]
theorem c_refuse {fu s z b : Nat} {a2 : Int32} {A : mwM} {L : mwL} (h12 : A 1 12 = 0) (hs : s < 40) (h68 : A 68 s = sI z) (h7 : A 1 7 = sI b) : DX8_refuseOwn fu (sI s) a2 A L = if sI z = a2 then some (flA A (sI 7) (sI b), L) else some (A, L) := by
  unfold DX8_refuseOwn fX8_refuseOwn_b35
  rw [if_pos h12, mck_s hs (by omega), sI_nn (by omega), h68, c_fail h12, mb2_s, h7]
  rfl
theorem st_lread {fu n le a b C T X S K R W : Nat} {A M : mwM} {Lc Lm : mwL} {tx : Nat → Nat} {nl : List Nm} {ow ct : Nat → Nat} {sg : Nat → Nat → Nat} {tu : Nat → Bool} {ky rd wt : Nat → Nat → Nat} (hfu : 6100 ≤ fu) (h : Ld A M n tx le a) (hP : PR A M Lc Lm n C T X S K R W nl ow ct sg tu ky rd wt) (h7 : A 1 7 = sI b) (h8 : M 732 8 = sI b) (hbn : b ≤ 6000) (hl : 12 * nl.length ≤ a) (hk : 15 * K ≤ a) : RlQ A M Lc Lm n le (DX8_readRead fu A Lc) (DX19_addRead fu M Lm) := by
  obtain ⟨⟨c1, c2, c3⟩, pT, pX, pB, pS, pK, pR, pW, pN, nB⟩ := id hP
  have ha := h.2.2.2.2.2.2.2.1
  have hX12 := pX.2.2.1
  have hS40 := pS.2.2.1
  have hT12 := pT.2.2.1
  obtain ⟨A1, M1, f1, f2, hr⟩ := st_told (fu := fu) (Lc := Lc) (Lm := Lm) (k := 3) hfu h pN (by omega)
  have fa1 : fWn A A1 := fun x y u => f1 x y (by omega)
  have fm1 : fG T S M M1 := fun x y u1 u2 u3 => f2 x y (by omega)
  unfold DX8_readRead DX19_addRead fX8_readRead_b77 fX19_addRead_b19 fX19_addRead_b33 fX19_addRead_b55
  rcases hr with ⟨q, q1, q2, q3, hk1, e1, e2, hL1, hH1⟩ | ⟨e1, e2, hX⟩
  rotate_left
  · rw [show DX8_toldName fu 0 3 A Lc = _ from e1, mb3_s, show DX19_named fu 4 M Lm = _ from e2, mb3_s, if_neg (show ¬ (0 : Int32) ≤ -1 by decide), if_neg (show ¬ (0 : Int32) ≤ -1 by decide), if_pos (show (-1 : Int32) < 0 by decide)]
    unfold DX8_dataOf
    rw [nf_told (Fx_n hX), mb3_s, mb3_s, nf_told (Fx_n hX), mb3_s, nf_number (Fx_n hX), mb3_s, nf_end (Fx_n hX), mb2_s, nf_refT (Fx_n hX) (by rw [if_neg (Fx_n hX)])]
    exact rl_bad hP (by omega) (by omega) fa1 fm1 hX rfl rfl
  have hs : q.2.2.2.2 < S := by
    rcases (nB.2 q q1).2 q2 with g | g | g | g <;> omega
  rw [show DX8_toldName fu 0 3 A Lc = _ from e1, mb3_s, show DX19_named fu 4 M Lm = _ from e2, mb3_s, if_pos (ge_s (by omega))]
  generalize hs' : q.2.2.2.2 = s at *
  have N1 := NaR_f pN (A' := A1) (M' := M1) (fun x y u => fa1 x y (by omega)) (fun x y u => fm1 x y (by omega) (by omega) (by omega))
  obtain ⟨A2, M2, f3, f4, hr⟩ := st_told (fu := fu) (Lc := Lc) (Lm := Lm) (k := 2) hfu hL1 N1 (by omega)
  have fa2 : fWn A A2 := fun x y u => by rw [f3 x y (by omega), fa1 x y u]
  have fm2 : fG T S M M2 := fun x y u1 u2 u3 => by rw [f4 x y (by omega), fm1 x y u1 u2 u3]
  rcases hr with ⟨q', q1', q2', q3', hk2, e3, e4, hL2, _⟩ | ⟨e3, e4, hX⟩
  rotate_left
  · rw [show DX8_toldName fu 0 2 A1 Lc = _ from e3, mb3_s, show DX19_named fu 3 M1 Lm = _ from e4, mb3_s, if_neg (show ¬ (0 : Int32) ≤ -1 by decide), if_pos (show (-1 : Int32) < 0 by decide)]
    unfold DX8_dataOf
    rw [mb3_s, nf_told (Fx_n hX), mb3_s, nf_number (Fx_n hX), mb3_s, nf_end (Fx_n hX), mb2_s, nf_refT (Fx_n hX) (by rw [if_neg (Fx_n hX)])]
    exact rl_bad hP (by omega) (by omega) fa2 fm2 hX rfl rfl
  have hx : q'.2.2.2.2 < X := by
    rcases (nB.2 q' q1').2 q2' with g | g | g | g <;> omega
  rw [show DX8_toldName fu 0 2 A1 Lc = _ from e3, mb3_s, show DX19_named fu 3 M1 Lm = _ from e4, mb3_s, if_pos (ge_s (by omega)), da_of, mb3_s]
  generalize hx' : q'.2.2.2.2 = x at *
  have N2 := NaR_f pN (A' := A2) (M' := M2) (fun x y u => fa2 x y (by omega)) (fun x y u => fm2 x y (by omega) (by omega) (by omega))
  obtain ⟨A3, M3, f5, f6, hr⟩ := st_dat (fu := fu) (Lc := Lc) (Lm := Lm) hfu hL2 N2 hx
  have fa3 : fWn A A3 := fun x y u => by rw [f5 x y (by omega), fa2 x y u]
  have fm3 : fG T S M M3 := fun x y u1 u2 u3 => by rw [f6 x y (by omega), fm2 x y u1 u2 u3]
  have hx12 : x < 12 := by omega
  rcases hr with ⟨d, hd, hk3, e5, e6, hL3, _⟩ | ⟨e5, e6, hX⟩
  rotate_left
  · rw [e5, mb3_s, e6, mb3_s, if_pos (show (-1 : Int32) < 0 by decide), nf_number (Fx_n hX), mb3_s, nf_end (Fx_n hX), mb2_s, mck_s hx12 (by omega), nf_ref (Fx_n hX), mb2_s, if_neg (Fx_n hX)]
    exact rl_bad hP (by omega) (by omega) fa3 fm3 hX rfl rfl
  have hd32 := (N2.2.2.2.2 x hx).2.2.1
  rw [e5, mb3_s, e6, mb3_s, if_neg (ns_s (by omega))]
  obtain ⟨A4, M4, f7, f8, hr⟩ := st_number (fu := fu) (Lc := Lc) (Lm := Lm) (a1 := sI 0) (a2 := sI 99) hfu hL3
  have fa4 : fWn A A4 := fun x y u => by rw [f7 x y (by omega), fa3 x y u]
  have fm4 : fG T S M M4 := fun x y u1 u2 u3 => by rw [f8 x y (by omega), fm3 x y u1 u2 u3]
  rcases hr with ⟨hk4, z1, z2, z3, e7, e8, e9, hL4, _⟩ | ⟨e7, e8, hX⟩
  rotate_left
  · rw [show DX8_number fu 0 99 A3 Lc = _ from e7, mb3_s, show DX19_number fu 0 99 M3 Lm = _ from e8, mb3_s, if_pos (show (0 : Int32) = 0 from rfl), nf_end (Fx_n hX), mb2_s, mck_s hx12 (by omega), nf_ref (Fx_n hX), mb2_s, if_neg (Fx_n hX)]
    exact rl_bad hP (by omega) (by omega) fa4 fm4 hX rfl rfl
  obtain ⟨v, y4, y5, y6⟩ := nu_nat (lo := 0) (hi := 99) z1 z2 z3 (by omega) (by omega)
  rw [y4] at e7 e9
  rw [show DX8_number fu 0 99 A3 Lc = _ from e7, mb3_s, show DX19_number fu 0 99 M3 Lm = _ from e8, mb3_s, if_neg (show ¬ (1 : Int32) = 0 by decide)]
  obtain ⟨A5, M5, f9, f10, hr⟩ := st_eol (fu := fu) (Lc := Lc) (Lm := Lm) hfu hL4
  have fa5 : fWn A A5 := fun x y u => by rw [f9 x y (by omega), fa4 x y u]
  have fm5 : fG T S M M5 := fun x y u1 u2 u3 => by rw [f10 x y (by omega), fm4 x y u1 u2 u3]
  rcases hr with ⟨hk5, e10, e11, hL5⟩ | ⟨e10, e11, hX⟩
  rotate_left
  · rw [e10, mb2_s, mck_s hx12 (by omega), nf_ref (Fx_n hX), mb2_s, if_neg (Fx_n hX), e11, mb3_s, if_pos (show (0 : Int32) = 0 from rfl)]
    exact rl_bad hP (by omega) (by omega) fa5 fm5 hX rfl rfl
  have l9 := hL5.2.2.2.2.2.2.2.2
  have hP5 := PR_f hP (A' := A5) (M' := M5) (fun a y u => fa5 a y (by omega)) (fun a y u1 u2 u3 => fm5 a y (by omega) u2 u3)
  obtain ⟨⟨c1', c2', c3'⟩, pT', pX', pB', pS', pK', ⟨r1, r2, r3, r4⟩, pW', pN', nB'⟩ := hP5
  have g7 : A5 1 7 = sI b := by rw [fa5 _ _ (by omega)]; exact h7
  have g8 : M5 732 8 = sI b := by rw [fm5 _ _ (by omega) (by omega) (by omega)]; exact h8
  have m13 : M5 732 13 = sI v := by rw [f10 _ _ (by omega)]; exact e9
  obtain ⟨x1, x2, x3, _⟩ := pX'.2.2.2.1 x hx
  obtain ⟨_, _, ⟨_, s62, s62'⟩, _, _, s68, _⟩ := pS'.2.2.2 s hs
  obtain ⟨w1, w2, w3, _⟩ := pX'.2.2.2.1 (sg 2 s) s62'
  have t1 := (pT'.2.2.2.1 (ct x) x2).2.1
  have t2 := (pT'.2.2.2.1 (ct (sg 2 s)) w2).2.1
  have t3 := (pT'.2.2.2.1 (ct x) x2).2.2.1
  have t4 := (pT'.2.2.2.1 (ct (sg 2 s)) w2).2.2.1
  have snd : DX19_senderOf fu (sI s) M5 Lm = some (sI (ow (ct (sg 2 s))), M5, Lm) := by
    unfold DX19_senderOf
    rw [mck_s (show s < 40 by omega) (by omega), sI_nn (by omega), s62, mck_s (show sg 2 s < 12 by omega) (by omega), sI_nn (by omega), w1, mck_s (show ct (sg 2 s) < 12 by omega) (by omega), sI_nn (by omega), t2]
  rw [e10, mb2_s, mck_s hx12 (by omega), sI_nn (k := x) (by omega), show A5 (293 + 36 * x + 0) 5 = sI (ow (ct x)) from x3, c_refuse l9 (show s < 40 by omega) s68 g7, e11, mb3_s, if_neg (show ¬ (1 : Int32) = 0 by decide), mck_s hx12 (by omega), x1, mck_s (show ct x < 12 by omega) (by omega), snd, mb3_s, sI_nn (k := ct x) (by omega), t1]
  by_cases co : ow (ct x) = ow (ct (sg 2 s))
  · have hX : Fx (flA A5 (sI 7) (sI b)) (mset (mset M5 732 11 7) 732 12 (sI b)) := Fx_i (k := 7) (by omega) (by omega) hbn
    rw [if_pos (show sI (ow (ct (sg 2 s))) = sI (ow (ct x)) by rw [co]), mb2_s, if_neg (Fx_n hX), if_pos (show sI (ow (ct x)) = sI (ow (ct (sg 2 s))) by rw [co]), m_fail, mb3_s, g8]
    exact rl_bad hP (by omega) (by omega) (fl_fr fa5) (fun x y u1 u2 u3 => by rw [mset_n (by omega), mset_n (by omega), fm5 x y u1 u2 u3]) hX rfl rfl
  rw [if_neg (show ¬ sI (ow (ct (sg 2 s))) = sI (ow (ct x)) by rw [sI_eq (by omega) (by omega)]; omega), mb2_s, if_pos l9, if_neg (show ¬ sI (ow (ct x)) = sI (ow (ct (sg 2 s))) by rw [sI_eq (by omega) (by omega)]; omega), r2]
  by_cases c60 : R = 60
  · have hX : Fx (flA A5 (sI 6) (sI b)) (mset (mset M5 732 11 6) 732 12 (sI b)) := Fx_i (k := 6) (by omega) (by omega) hbn
    have cA : DX1_addRead fu (sI s) (sI x) (sI d) (sI v) A5 Lc = some (-4, A5, Lc) := by
      unfold DX1_addRead
      rw [if_neg (show ¬ A5 3 15 < 60 by rw [r1, show (60 : Int32) = sI 60 from rfl, sI_lt (by omega) (by omega)]; omega)]
    rw [cA, mb3_s, c_heed l9 g7 (by decide), mb2_s, if_pos (show sI R = 60 by rw [c60]; rfl), m_fail, mb3_s, g8]
    exact rl_bad hP (by omega) (by omega) (fl_fr fa5) (fun x y u1 u2 u3 => by rw [mset_n (by omega), mset_n (by omega), fm5 x y u1 u2 u3]) hX rfl rfl
  have hR : R < 60 := by omega
  have cA : DX1_addRead fu (sI s) (sI x) (sI d) (sI v) A5 Lc = some (sI (R + 1), mset (mset (mset (mset (mset (mset A5 286 R (sI s)) 287 R (sI x)) 288 R (sI d)) 289 R (sI v)) 290 R 0) 3 15 (sI (R + 1)), Lc) := by
    unfold DX1_addRead
    rw [if_pos (show A5 3 15 < 60 by rw [r1, show (60 : Int32) = sI 60 from rfl, sI_lt (by omega) (by omega)]; omega)]
    simp (disch := omega) only [mset_n, mset_s, r1, mck_s, sI_nn, mlet_e, sI_1]
  have Rr : mck (sI R) 60 (mlet (mset M5 769 ((sI R).toNatClampNeg) (sI s)) (fun M22 => mck (M22 732 55) 60 (mlet (mset M22 770 ((M22 732 55).toNatClampNeg) (sI x)) (fun M24 => mck (M24 732 55) 60 (mlet (mset M24 771 ((M24 732 55).toNatClampNeg) (sI d)) (fun M26 => mck (M26 732 55) 60 (mlet (mset M26 772 ((M26 732 55).toNatClampNeg) (M26 732 13)) (fun M28 => mck (M28 732 55) 60 (mlet (mset M28 773 ((M28 732 55).toNatClampNeg) (vp_nar .boolean 0)) (fun M30 => mlet (mset M30 732 55 ((M30 732 55) + 1)) (fun M31 => some ((1 : Int32), M31, Lm)))))))))))) = some (1, mset (mset (mset (mset (mset (mset M5 769 R (sI s)) 770 R (sI x)) 771 R (sI d)) 772 R (sI v)) 773 R 0) 732 55 (sI (R + 1)), Lm) := by
    simp (disch := omega) only [mset_n, r2, m13, nar_f, mck_s, sI_nn, mlet_e, sI_1]
  rw [cA, mb3_s, c_heed0 (by omega), mb2_s, if_neg (show ¬ sI R = 60 by rw [show (60 : Int32) = sI 60 from rfl, sI_eq (by omega) (by omega)]; omega), Rr]
  generalize hA0 : mset (mset (mset (mset (mset (mset A5 286 R (sI s)) 287 R (sI x)) 288 R (sI d)) 289 R (sI v)) 290 R 0) 3 15 (sI (R + 1)) = A0
  generalize hM0 : mset (mset (mset (mset (mset (mset M5 769 R (sI s)) 770 R (sI x)) 771 R (sI d)) 772 R (sI v)) 773 R 0) 732 55 (sI (R + 1)) = M0
  have hA4 : ∀ x y, ¬ (x = 3 ∧ y = 15) → ¬ (286 ≤ x ∧ x ≤ 290 ∧ y = R) → A0 x y = A5 x y := fun x y u1 u2 => by
    rw [← hA0]
    simp (disch := omega) only [mset_n]
  have hM4 : ∀ x y, ¬ (x = 732 ∧ y = 55) → ¬ (769 ≤ x ∧ x ≤ 773 ∧ y = R) → M0 x y = M5 x y := fun x y u1 u2 => by
    rw [← hM0]
    simp (disch := omega) only [mset_n]
  refine ⟨A0, M0, Lc, Lm, true, rfl, rfl, ⟨fun p y u => ?_, fun p y u => ?_, ?_, ?_⟩, ?_, C, T, X, S, K, R + 1, W, nl, ow, ct, sg, tu, ky, fun i j => if j = R then (if i = 0 then s else if i = 1 then x else if i = 2 then d else v) else rd i j, wt, ⟨⟨by rw [hA4 _ _ (by omega) (by omega)]; exact c1', by rw [hM4 _ _ (by omega) (by omega)]; exact c2', c3⟩, PrT_f pT' (fun x y u => hA4 x y (by omega) (by omega)) (fun x y u => hM4 x y (by omega) (by omega)), PrX_f pX' (fun x y u => hA4 x y (by omega) (by omega)) (fun x y u => hM4 x y (by omega) (by omega)) (fun _ _ _ => rfl) (fun _ _ => rfl), PrB_f pB' (fun x u1 u2 => hM4 x 0 (by omega) (by omega)) (fun _ _ _ _ _ => rfl) (fun _ _ _ _ _ => rfl), PrS_f pS' (fun x y u => hA4 x y (by omega) (by omega)) (fun x y u => hM4 x y (by omega) (by omega)), PrK_f pK' (fun x y u => hA4 x y (by omega) (by omega)) (fun x y u => hM4 x y (by omega) (by omega)), ⟨by rw [← hA0, mset_s], by rw [← hM0, mset_s], by omega, fun i hi => ?_⟩, PrW_f pW' (fun x y u1 u2 => hA4 x y (by omega) (by omega)) (fun x y u => hM4 x y (by omega) (by omega)) (fun _ => rfl), NaR_f pN' (fun x y u => hA4 x y (by omega) (by omega)) (fun x y u => hM4 x y (by omega) (by omega)), nB⟩, by omega, by omega⟩
  · rw [hA4 p y (by omega) (by omega), fa5 p y (by omega)]
  · rw [hM4 p y (by omega) (by omega), fm5 p y (by omega) (by omega) (by omega)]
  · exact fun _ _ => rfl
  · exact fun _ _ _ => rfl
  · rw [if_pos rfl, hA4 _ _ (by omega) (by omega)]
    exact l9
  · dsimp only
    by_cases ci : i = R
    · subst ci
      rw [← hA0, ← hM0]
      simp (disch := omega) only [mset_n, mset_s]
      exact ⟨rfl, rfl, hs, rfl, rfl, hx, rfl, rfl, by show d < 32; omega, rfl, rfl, by show v < 1000; omega, false, rfl, rfl, fun z => absurd z (by decide)⟩
    · rw [if_neg ci, if_neg ci, if_neg ci, if_neg ci, hA4 _ _ (by omega) (by omega), hA4 _ _ (by omega) (by omega), hA4 _ _ (by omega) (by omega), hA4 _ _ (by omega) (by omega), hA4 _ _ (by omega) (by omega), hM4 _ _ (by omega) (by omega), hM4 _ _ (by omega) (by omega), hM4 _ _ (by omega) (by omega), hM4 _ _ (by omega) (by omega), hM4 _ _ (by omega) (by omega)]
      exact r4 i (by omega)
/-! READING: the line of a watch -/
theorem st_lwatch {fu n le a b C T X S K R W : Nat} {A M : mwM} {Lc Lm : mwL} {tx : Nat → Nat} {nl : List Nm} {ow ct : Nat → Nat} {sg : Nat → Nat → Nat} {tu : Nat → Bool} {ky rd wt : Nat → Nat → Nat} (hfu : 6100 ≤ fu) (h : Ld A M n tx le a) (hP : PR A M Lc Lm n C T X S K R W nl ow ct sg tu ky rd wt) (h7 : A 1 7 = sI b) (h8 : M 732 8 = sI b) (hbn : b ≤ 6000) (hl : 12 * nl.length ≤ a) (hk : 15 * K ≤ a) : RlQ A M Lc Lm n le (DX8_readWatch fu A Lc) (DX19_addWatch fu M Lm) := by
  obtain ⟨⟨c1, c2, c3⟩, pT, pX, pB, pS, pK, pR, pW, pN, nB⟩ := id hP
  have ha := h.2.2.2.2.2.2.2.1
  have hX12 := pX.2.2.1
  have hS40 := pS.2.2.1
  have hT12 := pT.2.2.1
  obtain ⟨A1, M1, f1, f2, hr⟩ := st_told (fu := fu) (Lc := Lc) (Lm := Lm) (k := 3) hfu h pN (by omega)
  have fa1 : fWn A A1 := fun x y u => f1 x y (by omega)
  have fm1 : fG T S M M1 := fun x y u1 u2 u3 => f2 x y (by omega)
  unfold DX8_readWatch DX19_addWatch fX8_readWatch_b77 fX19_addWatch_b19 fX19_addWatch_b42
  rcases hr with ⟨q, q1, q2, q3, hk1, e1, e2, hL1, hH1⟩ | ⟨e1, e2, hX⟩
  rotate_left
  · rw [show DX8_toldName fu 0 3 A Lc = _ from e1, mb3_s, show DX19_named fu 4 M Lm = _ from e2, mb3_s, if_neg (show ¬ (0 : Int32) ≤ -1 by decide), if_pos (show (-1 : Int32) < 0 by decide), nf_told (Fx_n hX), mb3_s, nf_number (Fx_n hX), mb3_s, nf_end (Fx_n hX), mb2_s, nf_ref (Fx_n hX), mb2_s, if_neg (Fx_n hX)]
    exact rl_bad hP (by omega) (by omega) fa1 fm1 hX rfl rfl
  have hs : q.2.2.2.2 < S := by
    rcases (nB.2 q q1).2 q2 with g | g | g | g <;> omega
  rw [show DX8_toldName fu 0 3 A Lc = _ from e1, mb3_s, show DX19_named fu 4 M Lm = _ from e2, mb3_s, if_pos (ge_s (by omega))]
  generalize hs' : q.2.2.2.2 = s at *
  have N1 := NaR_f pN (A' := A1) (M' := M1) (fun x y u => fa1 x y (by omega)) (fun x y u => fm1 x y (by omega) (by omega) (by omega))
  obtain ⟨A2, M2, f3, f4, hr⟩ := st_told (fu := fu) (Lc := Lc) (Lm := Lm) (k := 0) hfu hL1 N1 (by omega)
  have fa2 : fWn A A2 := fun x y u => by rw [f3 x y (by omega), fa1 x y u]
  have fm2 : fG T S M M2 := fun x y u1 u2 u3 => by rw [f4 x y (by omega), fm1 x y u1 u2 u3]
  rcases hr with ⟨q', q1', q2', q3', hk2, e3, e4, hL2, _⟩ | ⟨e3, e4, hX⟩
  rotate_left
  · rw [show DX8_toldName fu 0 0 A1 Lc = _ from e3, mb3_s, show DX19_named fu 1 M1 Lm = _ from e4, mb3_s, if_pos (show (-1 : Int32) < 0 by decide), nf_number (Fx_n hX), mb3_s, nf_end (Fx_n hX), mb2_s, nf_ref (Fx_n hX), mb2_s, if_neg (Fx_n hX)]
    exact rl_bad hP (by omega) (by omega) fa2 fm2 hX rfl rfl
  have hco : q'.2.2.2.2 < C := by
    rcases (nB.2 q' q1').2 q2' with g | g | g | g <;> omega
  rw [show DX8_toldName fu 0 0 A1 Lc = _ from e3, mb3_s, show DX19_named fu 1 M1 Lm = _ from e4, mb3_s, if_neg (ns_s (by omega))]
  generalize hco' : q'.2.2.2.2 = co at *
  obtain ⟨A4, M4, f7, f8, hr⟩ := st_number (fu := fu) (Lc := Lc) (Lm := Lm) (a1 := sI 1) (a2 := sI 255) hfu hL2
  have fa4 : fWn A A4 := fun x y u => by rw [f7 x y (by omega), fa2 x y u]
  have fm4 : fG T S M M4 := fun x y u1 u2 u3 => by rw [f8 x y (by omega), fm2 x y u1 u2 u3]
  rcases hr with ⟨hk4, z1, z2, z3, e7, e8, e9, hL4, _⟩ | ⟨e7, e8, hX⟩
  rotate_left
  · rw [show DX8_number fu 1 255 A2 Lc = _ from e7, mb3_s, show DX19_number fu 1 255 M2 Lm = _ from e8, mb3_s, if_pos (show (0 : Int32) = 0 from rfl), nf_end (Fx_n hX), mb2_s, nf_ref (Fx_n hX), mb2_s, if_neg (Fx_n hX)]
    exact rl_bad hP (by omega) (by omega) fa4 fm4 hX rfl rfl
  obtain ⟨v, y4, y5, y6⟩ := nu_nat (lo := 1) (hi := 255) z1 z2 z3 (by omega) (by omega)
  rw [y4] at e7 e9
  rw [show DX8_number fu 1 255 A2 Lc = _ from e7, mb3_s, show DX19_number fu 1 255 M2 Lm = _ from e8, mb3_s, if_neg (show ¬ (1 : Int32) = 0 by decide)]
  obtain ⟨A5, M5, f9, f10, hr⟩ := st_eol (fu := fu) (Lc := Lc) (Lm := Lm) hfu hL4
  have fa5 : fWn A A5 := fun x y u => by rw [f9 x y (by omega), fa4 x y u]
  have fm5 : fG T S M M5 := fun x y u1 u2 u3 => by rw [f10 x y (by omega), fm4 x y u1 u2 u3]
  rcases hr with ⟨hk5, e10, e11, hL5⟩ | ⟨e10, e11, hX⟩
  rotate_left
  · rw [e10, mb2_s, nf_ref (Fx_n hX), mb2_s, if_neg (Fx_n hX), e11, mb3_s, if_pos (show (0 : Int32) = 0 from rfl)]
    exact rl_bad hP (by omega) (by omega) fa5 fm5 hX rfl rfl
  have l9 := hL5.2.2.2.2.2.2.2.2
  have hP5 := PR_f hP (A' := A5) (M' := M5) (fun a y u => fa5 a y (by omega)) (fun a y u1 u2 u3 => fm5 a y (by omega) u2 u3)
  obtain ⟨⟨c1', c2', c3'⟩, pT', pX', pB', pS', pK', pR', ⟨⟨r1, r2, r3, r4⟩, rT, rP, rZ⟩, pN', nB'⟩ := hP5
  have g7 : A5 1 7 = sI b := by rw [fa5 _ _ (by omega)]; exact h7
  have g8 : M5 732 8 = sI b := by rw [fm5 _ _ (by omega) (by omega) (by omega)]; exact h8
  have m13 : M5 732 13 = sI v := by rw [f10 _ _ (by omega)]; exact e9
  obtain ⟨_, ⟨s66, _, _, s66'⟩, ⟨_, s62, s62'⟩, _, _, s68, _⟩ := pS'.2.2.2 s hs
  obtain ⟨w1, w2, w3, _⟩ := pX'.2.2.2.1 (sg 2 s) s62'
  have t2 := (pT'.2.2.2.1 (ct (sg 2 s)) w2).2.1
  have t4 := (pT'.2.2.2.1 (ct (sg 2 s)) w2).2.2.1
  have snd : DX19_senderOf fu (sI s) M5 Lm = some (sI (ow (ct (sg 2 s))), M5, Lm) := by
    unfold DX19_senderOf
    rw [mck_s (show s < 40 by omega) (by omega), sI_nn (by omega), s62, mck_s (show sg 2 s < 12 by omega) (by omega), sI_nn (by omega), w1, mck_s (show ct (sg 2 s) < 12 by omega) (by omega), sI_nn (by omega), t2]
  rw [e10, mb2_s, c_refuse l9 (show s < 40 by omega) s68 g7, e11, mb3_s, if_neg (show ¬ (1 : Int32) = 0 by decide), snd, mb3_s]
  by_cases cc : co = ow (ct (sg 2 s))
  · have hX : Fx (flA A5 (sI 7) (sI b)) (mset (mset M5 732 11 7) 732 12 (sI b)) := Fx_i (k := 7) (by omega) (by omega) hbn
    rw [if_pos (show sI (ow (ct (sg 2 s))) = sI co by rw [cc]), mb2_s, if_neg (Fx_n hX), if_pos (show sI co = sI (ow (ct (sg 2 s))) by rw [cc]), m_fail, mb3_s, g8]
    exact rl_bad hP (by omega) (by omega) (fl_fr fa5) (fun x y u1 u2 u3 => by rw [mset_n (by omega), mset_n (by omega), fm5 x y u1 u2 u3]) hX rfl rfl
  rw [if_neg (show ¬ sI (ow (ct (sg 2 s))) = sI co by rw [sI_eq (by omega) (by omega)]; omega), mb2_s, if_pos l9, mck_s (show s < 40 by omega) (by omega), mlet_e, sI_nn (k := s) (by omega), s66, show (3 : Int32) * sI (sg 1 s) = sI (3 * sg 1 s) from sI_lml, if_neg (show ¬ sI co = sI (ow (ct (sg 2 s))) by rw [sI_eq (by omega) (by omega)]; omega), r2]
  by_cases c30 : W = 30
  · have hX : Fx (flA A5 (sI 6) (sI b)) (mset (mset M5 732 11 6) 732 12 (sI b)) := Fx_i (k := 6) (by omega) (by omega) hbn
    have cA : DX10_addWatch fu (sI s) (sI co) (sI v) (sI (3 * sg 1 s)) A5 Lc = some (-4, A5, Lc) := by
      unfold DX10_addWatch
      rw [if_neg (show ¬ A5 139 2 < 30 by rw [r1, show (30 : Int32) = sI 30 from rfl, sI_lt (by omega) (by omega)]; omega)]
    rw [cA, mb3_s, c_heed l9 g7 (by decide), mb2_s, if_pos (show sI W = 30 by rw [c30]; rfl), m_fail, mb3_s, g8]
    exact rl_bad hP (by omega) (by omega) (fl_fr fa5) (fun x y u1 u2 u3 => by rw [mset_n (by omega), mset_n (by omega), fm5 x y u1 u2 u3]) hX rfl rfl
  have hW : W < 30 := by omega
  generalize hM6 : mset (mset M5 775 W (sI s)) 776 W (sI co) = M6
  have fm6 : ∀ x y, ¬ ((x = 775 ∨ x = 776) ∧ y = W) → M6 x y = M5 x y := fun x y u => by rw [← hM6, mset_n (by omega), mset_n (by omega)]
  have u5 : M6 775 W = sI s := by rw [← hM6, mset_n (by omega), mset_s]
  have u6 : M6 776 W = sI co := by rw [← hM6, mset_s]
  obtain ⟨A7, M7, i1, i2, i3, i4, i5, i6, i7, i8, i9, i10, i11⟩ := st_code (fu := fu) (L := Lc) (L2 := Lm) (s := sI s) (c := sI co) (pt := sI (3 * sg 1 s)) (p := v) (M := M6) (by omega) hW y5 (by omega) (by rw [fm6 _ _ (by omega)]; exact (rZ (W + 1) (by omega) (by omega)).1) (by rw [fm6 _ _ (by omega)]; exact (rZ (W + 1) (by omega) (by omega)).2) (RTr_fr rT (fun _ _ _ _ => rfl) (fun x y u1 u2 _ => fm6 x y (by omega)))
  have Rr : mck (sI W) 30 (mlet (mset M5 775 ((sI W).toNatClampNeg) (sI s)) (fun M16 => mck (M16 732 62) 30 (mlet (mset M16 776 ((M16 732 62).toNatClampNeg) (sI co)) (fun M18 => mb3 (DX18_code fu (M18 732 13) 64 127 M18 Lm) (fun r21 M19 L20 => mck (M18 732 62) 30 (mlet (mset M19 777 ((M18 732 62).toNatClampNeg) r21) (fun M23 => mck (M23 732 62) 30 (mlet (mset L20 778 ((M23 732 62).toNatClampNeg) 0) (fun L25 => mlet (mset M23 732 62 ((M23 732 62) + 1)) (fun M26 => some ((1 : Int32), M26, L25))))))))))) = some (1, mset (mset M7 777 W (sI (W + 1))) 732 62 (sI (W + 1)), mset Lm 778 W 0) := by
    rw [mck_s hW (by omega), sI_nn (by omega), mlet_e, mset_n (show ¬ (732 = 775 ∧ 62 = W) by omega), r2, mck_s hW (by omega), sI_nn (by omega), mlet_e, hM6, fm6 732 13 (by omega), m13, i2, mb3_s, fm6 732 62 (by omega), r2, mck_s hW (by omega), sI_nn (by omega), mlet_e, mset_n (show ¬ (732 = 777 ∧ 62 = W) by omega), i11 732 62 (by omega), fm6 732 62 (by omega), r2, mck_s hW (by omega), sI_nn (by omega), mlet_e, mlet_e, sI_1]
  rw [i1, mb3_s, c_heed0 (by omega), mb2_s, if_neg (show ¬ sI W = 30 by rw [show (30 : Int32) = sI 30 from rfl, sI_eq (by omega) (by omega)]; omega), Rr]
  generalize hM0 : mset (mset M7 777 W (sI (W + 1))) 732 62 (sI (W + 1)) = M0
  have hM4 : ∀ x y, ¬ (x = 732 ∧ y = 62) → ¬ (775 ≤ x ∧ x ≤ 777 ∧ y = W) → ¬ (902 ≤ x ∧ x ≤ 920) → M0 x y = M5 x y := fun x y u1 u2 u3 => by rw [← hM0, mset_n (by omega), mset_n (by omega), i11 x y u3, fm6 x y (by omega)]
  have hM7 : ∀ x y, 902 ≤ x → x ≤ 920 → M0 x y = M7 x y := fun x y u1 u2 => by rw [← hM0, mset_n (by omega), mset_n (by omega)]
  have hA4 : ∀ x y, ¬ (x = 139 ∧ y = 2) → ¬ (y = W ∧ 141 ≤ x ∧ x ≤ 150) → A7 x y = A5 x y := i8
  have hL0 : ∀ x, x ≠ 778 → mset Lm 778 W 0 x = Lm x := fun x hx => by
    funext y
    exact mset_n (by omega)
  refine ⟨A7, M0, Lc, mset Lm 778 W 0, true, rfl, rfl, ⟨fun p y u => ?_, fun p y u => ?_, ?_, ?_⟩, ?_, C, T, X, S, K, R, W + 1, nl, ow, ct, sg, tu, ky, rd, fun i j => if j = W then (if i = 0 then s else co) else wt i j, ⟨⟨by rw [hA4 _ _ (by omega) (by omega)]; exact c1', by rw [hM4 _ _ (by omega) (by omega) (by omega)]; exact c2', c3⟩, PrT_f pT' (fun x y u => hA4 x y (by omega) (by omega)) (fun x y u => hM4 x y (by omega) (by omega) (by omega)), PrX_f pX' (fun x y u => hA4 x y (by omega) (by omega)) (fun x y u => hM4 x y (by omega) (by omega) (by omega)) (fun _ _ _ => rfl) (fun x hx => hL0 x (by omega)), PrB_f pB' (fun x u1 u2 => hM4 x 0 (by omega) (by omega) (by omega)) (fun _ _ _ _ _ => rfl) (fun x y u1 u2 u3 => by rw [hL0 x (by omega)]), PrS_f pS' (fun x y u => hA4 x y (by omega) (by omega)) (fun x y u => hM4 x y (by omega) (by omega) (by omega)), PrK_f pK' (fun x y u => hA4 x y (by omega) (by omega)) (fun x y u => hM4 x y (by omega) (by omega) (by omega)), RdR_f pR' (fun x y u => hA4 x y (by omega) (by omega)) (fun x y u => hM4 x y (by omega) (by omega) (by omega)) (fun _ => rfl) (fun y => by rw [hL0 _ (by omega)]), ⟨⟨?_, by rw [← hM0, mset_s], by omega, fun w hw => ?_⟩, ?_, fun w hw => ?_, fun j j1 j2 => ?_⟩, NaR_f pN' (fun x y u => hA4 x y (by omega) (by omega)) (fun x y u => hM4 x y (by omega) (by omega) (by omega)), nB⟩, by omega, by omega⟩
  · rw [hA4 p y (by omega) (by omega), fa5 p y (by omega)]
  · rw [hM4 p y (by omega) (by omega) (by omega), fm5 p y (by omega) (by omega) (by omega)]
  · exact fun _ _ => rfl
  · exact fun p u1 u2 => hL0 p u2
  · rw [if_pos rfl, hA4 _ _ (by omega) (by omega)]
    exact l9
  · exact i3.2.1
  · dsimp only
    by_cases ci : w = W
    · subst ci
      rw [if_pos rfl, if_pos rfl, if_pos rfl, if_neg (show ¬ 1 = 0 by omega), i4, i5, i7, mset_s, ← hM0, mset_n (by omega), mset_n (by omega), mset_n (by omega), mset_n (by omega), mset_n (by omega), mset_s, i11 _ _ (by omega), i11 _ _ (by omega), u5, u6]
      exact ⟨rfl, rfl, hs, rfl, rfl, by omega, rfl, 0, by omega, rfl, rfl⟩
    · obtain ⟨b1, b2, b3, b4, b5, b6, b7, nt, b8, b9, b10⟩ := r4 w (by omega)
      rw [if_neg ci, if_neg ci, hA4 _ _ (by omega) (by omega), hA4 _ _ (by omega) (by omega), hM4 _ _ (by omega) (by omega) (by omega), hM4 _ _ (by omega) (by omega) (by omega), hM4 _ _ (by omega) (by omega) (by omega)]
      exact ⟨b1, b2, b3, b4, b5, b6, b7, nt, b8, by rw [hA4 _ _ (by omega) (by omega)]; exact b9, by rw [mset_n (by omega)]; exact b10⟩
  · exact RTr_fr i3 (fun _ _ _ _ => rfl) (fun x y u1 u2 _ => hM7 x y u1 u2)
  · dsimp only
    by_cases ci : w = W
    · rw [if_pos ci, if_pos rfl, ci]
      exact i6
    · rw [if_neg ci, hA4 _ _ (by omega) (by omega)]
      exact rP w (by omega)
  · rw [hM7 _ _ (by omega) (by omega), hM7 _ _ (by omega) (by omega), i9, i10, fm6 _ _ (by omega), fm6 _ _ (by omega)]
    exact rZ j (by omega) j2
/-! READING: a line -/
theorem ok_l0 : okW [99, 111, 110, 116, 114, 111, 108, 108, 101, 114] 7812741990951317347 29285 = true := by decide +kernel
theorem ok_l1 : okW [116, 97, 115, 107] 1802723700 0 = true := by decide +kernel
theorem ok_l2 : okW [99, 104, 97, 114, 116] 500135192675 0 = true := by decide +kernel
theorem ok_l3 : okW [115, 116, 97, 116, 101] 435744240755 0 = true := by decide +kernel
theorem ok_l4 : okW [101, 100, 103, 101] 1701274725 0 = true := by decide +kernel
theorem ok_l5 : okW [97, 102, 116, 101, 114] 491328398945 0 = true := by decide +kernel
theorem ok_l6 : okW [100, 97, 116, 117, 109] 470121996644 0 = true := by decide +kernel
theorem ok_l7 : okW [101, 110, 116, 101, 114] 491328400997 0 = true := by decide +kernel
theorem ok_l8 : okW [108, 101, 97, 118, 101] 435777791340 0 = true := by decide +kernel
theorem ok_l9 : okW [116, 97, 107, 101] 1701536116 0 = true := by decide +kernel
theorem ok_l10 : okW [115, 105, 103, 110, 97, 108] 119165719898483 0 = true := by decide +kernel
theorem ok_l11 : okW [112, 114, 111, 116, 101, 99, 116] 32760384694743664 0 = true := by decide +kernel
theorem ok_l12 : okW [114, 101, 97, 100] 1684104562 0 = true := by decide +kernel
theorem ok_l13 : okW [119, 97, 116, 99, 104] 448345170295 0 = true := by decide +kernel
theorem rl_wrap {A M M1 : mwM} {Lc Lm : mwL} {n le : Nat} {P : Option (mwM × mwL)} {Q : Option (Int32 × mwM × mwL)} (h : RlQ A M1 Lc Lm n le P Q) (hM : ∀ x y, ¬ (x = 732 ∧ y = 8) → M1 x y = M x y) : RlQ A M Lc Lm n le (mb2 P (fun M6 L7 => some (M6, L7))) (mb3 Q (fun r M L => mzz r (some (r, M, L)))) := by
  obtain ⟨A', M', Lc', Lm', gd, e1, e2, ⟨f1, f2, f3, f4⟩, h3, h4⟩ := h
  refine ⟨A', M', Lc', Lm', gd, by rw [e1, mb2_s], ?_, ⟨f1, fun p y u => by rw [f2 p y u, hM p y (by omega)], f3, f4⟩, h3, h4⟩
  rw [e2, mb3_s]
  cases gd <;> rfl
theorem st_line {fu n le w p C T X S K R W : Nat} {A M : mwM} {Lc Lm : mwL} {tx : Nat → Nat} {nl : List Nm} {ow ct : Nat → Nat} {sg : Nat → Nat → Nat} {tu : Nat → Bool} {ky rd wt : Nat → Nat → Nat} {e : Nat} (hfu : 6100 ≤ fu) (h : Ld A M n tx le e) (hH : Hw A M w e) (hP : PR A M Lc Lm n C T X S K R W nl ow ct sg tu ky rd wt) (h7 : A 1 7 = sI w) (hb : e < le → tx e = 32) (hp : p ≤ w) (hl : 12 * nl.length ≤ p) (hk : 15 * K ≤ p) : RlQ A M Lc Lm n le (DX8_readLine fu A Lc) (DX19_line fu M Lm) := by
  obtain ⟨w8, w9, m9, m10, hlt⟩ := id hH
  obtain ⟨l1, l2, l3, l4, l5, l6, l7, l8, l9⟩ := id h
  have hn := l1.2.1
  have hbn : w ≤ 6000 := by omega
  have ci := c_indexIn (fu := fu) (a1 := 0) (L := Lc) wLines (by omega) l1 w8 w9 (by omega) (by decide) st_lines
  unfold DX8_readLine DX19_line fX8_readLine_b186
  rw [ci, mb3_s, mlet_e, mlet_e, m9]
  generalize hM1 : mset M 732 8 (sI w) = M1
  have fm : ∀ x y, ¬ (x = 732 ∧ y = 8) → M1 x y = M x y := fun x y u => by rw [← hM1, mset_n (by omega)]
  have s8 : M1 732 8 = sI w := by rw [← hM1, mset_s]
  have hL : Ld A M1 n tx le e := Ld_n h (fun x y u => fm x y (by omega))
  have t2 : TxM M1 n tx := hL.2.1
  have n9 : M1 732 9 = sI w := by rw [fm _ _ (by omega)]; exact m9
  have n10 : M1 732 10 = sI e := by rw [fm _ _ (by omega)]; exact m10
  have hP1 := PR_f hP (A' := A) (M' := M1) (fun _ _ _ => rfl) (fun x y u1 u2 u3 => fm x y (by omega))
  generalize hix : idxW tx w (e - w) wLines 0 = ix
  unfold wLines at hix
  simp only [idxW] at hix
  rw [m_is9 (by omega) t2 n9 n10 hlt (by omega) ok_l0, mb3_s]
  by_cases c0 : isW tx w (e - w) [99, 111, 110, 116, 114, 111, 108, 108, 101, 114] = true
  · have hlen : e - w = 10 := (of_decide_eq_true c0).1
    rw [if_pos c0] at hix
    rw [c0, bI_t, if_neg (show ¬ (1 : Int32) = 0 by decide), ← hix, if_pos (show sI 0 = (0 : Int32) from rfl)]
    exact rl_wrap (st_ctl hfu hL hP1 hb (by omega) (by omega)) fm
  rw [if_neg c0] at hix
  rw [Bool.not_eq_true] at c0
  rw [c0, bI_f, if_pos (show (0 : Int32) = 0 from rfl)]
  rw [m_is9 (by omega) t2 n9 n10 hlt (by omega) ok_l1, mb3_s]
  by_cases c1 : isW tx w (e - w) [116, 97, 115, 107] = true
  · have hlen : e - w = 4 := (of_decide_eq_true c1).1
    rw [if_pos c1] at hix
    rw [c1, bI_t, if_neg (show ¬ (1 : Int32) = 0 by decide), ← hix, if_neg (show ¬ sI 1 = (0 : Int32) by decide), if_pos (show sI 1 = (1 : Int32) from rfl)]
    exact rl_wrap (st_task hfu hL hP1 hb (by omega) (by omega)) fm
  rw [if_neg c1] at hix
  rw [Bool.not_eq_true] at c1
  rw [c1, bI_f, if_pos (show (0 : Int32) = 0 from rfl)]
  rw [m_is9 (by omega) t2 n9 n10 hlt (by omega) ok_l2, mb3_s]
  by_cases c2 : isW tx w (e - w) [99, 104, 97, 114, 116] = true
  · have hlen : e - w = 5 := (of_decide_eq_true c2).1
    rw [if_pos c2] at hix
    rw [c2, bI_t, if_neg (show ¬ (1 : Int32) = 0 by decide), ← hix, if_neg (show ¬ sI 2 = (0 : Int32) by decide), if_neg (show ¬ sI 2 = (1 : Int32) by decide), if_pos (show sI 2 = (2 : Int32) from rfl)]
    exact rl_wrap (st_chart hfu hL hP1 hb (by omega) (by omega)) fm
  rw [if_neg c2] at hix
  rw [Bool.not_eq_true] at c2
  rw [c2, bI_f, if_pos (show (0 : Int32) = 0 from rfl)]
  rw [m_is9 (by omega) t2 n9 n10 hlt (by omega) ok_l3, mb3_s]
  by_cases c3 : isW tx w (e - w) [115, 116, 97, 116, 101] = true
  · have hlen : e - w = 5 := (of_decide_eq_true c3).1
    rw [if_pos c3] at hix
    rw [c3, bI_t, if_neg (show ¬ (1 : Int32) = 0 by decide), ← hix, if_neg (show ¬ sI 3 = (0 : Int32) by decide), if_neg (show ¬ sI 3 = (1 : Int32) by decide), if_neg (show ¬ sI 3 = (2 : Int32) by decide), if_pos (show sI 3 = (3 : Int32) from rfl)]
    exact rl_wrap (st_state hfu hL hP1 h7 s8 hbn hb (by omega) (by omega)) fm
  rw [if_neg c3] at hix
  rw [Bool.not_eq_true] at c3
  rw [c3, bI_f, if_pos (show (0 : Int32) = 0 from rfl)]
  rw [m_is9 (by omega) t2 n9 n10 hlt (by omega) ok_l4, mb3_s]
  by_cases c4 : isW tx w (e - w) [101, 100, 103, 101] = true
  · have hlen : e - w = 4 := (of_decide_eq_true c4).1
    rw [if_pos c4] at hix
    rw [c4, bI_t, if_neg (show ¬ (1 : Int32) = 0 by decide), ← hix, if_neg (show ¬ sI 4 = (0 : Int32) by decide), if_neg (show ¬ sI 4 = (1 : Int32) by decide), if_neg (show ¬ sI 4 = (2 : Int32) by decide), if_neg (show ¬ sI 4 = (3 : Int32) by decide), if_pos (show sI 4 = (4 : Int32) from rfl)]
    exact rl_wrap (st_edge hfu hL hP1 h7 s8 hbn (by omega) (by omega)) fm
  rw [if_neg c4] at hix
  rw [Bool.not_eq_true] at c4
  rw [c4, bI_f, if_pos (show (0 : Int32) = 0 from rfl)]
  rw [m_is9 (by omega) t2 n9 n10 hlt (by omega) ok_l5, mb3_s]
  by_cases c5 : isW tx w (e - w) [97, 102, 116, 101, 114] = true
  · have hlen : e - w = 5 := (of_decide_eq_true c5).1
    rw [if_pos c5] at hix
    rw [c5, bI_t, if_neg (show ¬ (1 : Int32) = 0 by decide), ← hix, if_neg (show ¬ sI 5 = (0 : Int32) by decide), if_neg (show ¬ sI 5 = (1 : Int32) by decide), if_neg (show ¬ sI 5 = (2 : Int32) by decide), if_neg (show ¬ sI 5 = (3 : Int32) by decide), if_neg (show ¬ sI 5 = (4 : Int32) by decide), if_pos (show sI 5 = (5 : Int32) from rfl)]
    exact rl_wrap (st_after hfu hL hP1 h7 s8 hbn (by omega) (by omega)) fm
  rw [if_neg c5] at hix
  rw [Bool.not_eq_true] at c5
  rw [c5, bI_f, if_pos (show (0 : Int32) = 0 from rfl)]
  rw [m_is9 (by omega) t2 n9 n10 hlt (by omega) ok_l6, mb3_s]
  by_cases c6 : isW tx w (e - w) [100, 97, 116, 117, 109] = true
  · have hlen : e - w = 5 := (of_decide_eq_true c6).1
    rw [if_pos c6] at hix
    rw [c6, bI_t, if_neg (show ¬ (1 : Int32) = 0 by decide), ← hix, if_neg (show ¬ sI 6 = (0 : Int32) by decide), if_neg (show ¬ sI 6 = (1 : Int32) by decide), if_neg (show ¬ sI 6 = (2 : Int32) by decide), if_neg (show ¬ sI 6 = (3 : Int32) by decide), if_neg (show ¬ sI 6 = (4 : Int32) by decide), if_neg (show ¬ sI 6 = (5 : Int32) by decide), if_pos (show sI 6 = (6 : Int32) from rfl)]
    exact rl_wrap (st_datum hfu hL hP1 h7 s8 hbn hb (by omega) (by omega)) fm
  rw [if_neg c6] at hix
  rw [Bool.not_eq_true] at c6
  rw [c6, bI_f, if_pos (show (0 : Int32) = 0 from rfl)]
  rw [m_is9 (by omega) t2 n9 n10 hlt (by omega) ok_l7, mb3_s]
  by_cases c7 : isW tx w (e - w) [101, 110, 116, 101, 114] = true
  · have hlen : e - w = 5 := (of_decide_eq_true c7).1
    rw [if_pos c7] at hix
    rw [c7, bI_t, if_neg (show ¬ (1 : Int32) = 0 by decide), ← hix, if_neg (show ¬ sI 7 = (0 : Int32) by decide), if_neg (show ¬ sI 7 = (1 : Int32) by decide), if_neg (show ¬ sI 7 = (2 : Int32) by decide), if_neg (show ¬ sI 7 = (3 : Int32) by decide), if_neg (show ¬ sI 7 = (4 : Int32) by decide), if_neg (show ¬ sI 7 = (5 : Int32) by decide), if_neg (show ¬ sI 7 = (6 : Int32) by decide), if_pos (show sI 7 = (7 : Int32) from rfl)]
    exact rl_wrap (st_act (w := 0) hfu hL hP1 h7 s8 hbn (by omega) (by omega) (by omega)) fm
  rw [if_neg c7] at hix
  rw [Bool.not_eq_true] at c7
  rw [c7, bI_f, if_pos (show (0 : Int32) = 0 from rfl)]
  rw [m_is9 (by omega) t2 n9 n10 hlt (by omega) ok_l8, mb3_s]
  by_cases c8 : isW tx w (e - w) [108, 101, 97, 118, 101] = true
  · have hlen : e - w = 5 := (of_decide_eq_true c8).1
    rw [if_pos c8] at hix
    rw [c8, bI_t, if_neg (show ¬ (1 : Int32) = 0 by decide), ← hix, if_neg (show ¬ sI 8 = (0 : Int32) by decide), if_neg (show ¬ sI 8 = (1 : Int32) by decide), if_neg (show ¬ sI 8 = (2 : Int32) by decide), if_neg (show ¬ sI 8 = (3 : Int32) by decide), if_neg (show ¬ sI 8 = (4 : Int32) by decide), if_neg (show ¬ sI 8 = (5 : Int32) by decide), if_neg (show ¬ sI 8 = (6 : Int32) by decide), if_neg (show ¬ sI 8 = (7 : Int32) by decide), if_pos (show sI 8 = (8 : Int32) from rfl)]
    exact rl_wrap (st_act (w := 1) hfu hL hP1 h7 s8 hbn (by omega) (by omega) (by omega)) fm
  rw [if_neg c8] at hix
  rw [Bool.not_eq_true] at c8
  rw [c8, bI_f, if_pos (show (0 : Int32) = 0 from rfl)]
  rw [m_is9 (by omega) t2 n9 n10 hlt (by omega) ok_l9, mb3_s]
  by_cases c9 : isW tx w (e - w) [116, 97, 107, 101] = true
  · have hlen : e - w = 4 := (of_decide_eq_true c9).1
    rw [if_pos c9] at hix
    rw [c9, bI_t, if_neg (show ¬ (1 : Int32) = 0 by decide), ← hix, if_neg (show ¬ sI 9 = (0 : Int32) by decide), if_neg (show ¬ sI 9 = (1 : Int32) by decide), if_neg (show ¬ sI 9 = (2 : Int32) by decide), if_neg (show ¬ sI 9 = (3 : Int32) by decide), if_neg (show ¬ sI 9 = (4 : Int32) by decide), if_neg (show ¬ sI 9 = (5 : Int32) by decide), if_neg (show ¬ sI 9 = (6 : Int32) by decide), if_neg (show ¬ sI 9 = (7 : Int32) by decide), if_neg (show ¬ sI 9 = (8 : Int32) by decide), if_pos (show sI 9 = (9 : Int32) from rfl)]
    exact rl_wrap (st_act (w := 2) hfu hL hP1 h7 s8 hbn (by omega) (by omega) (by omega)) fm
  rw [if_neg c9] at hix
  rw [Bool.not_eq_true] at c9
  rw [c9, bI_f, if_pos (show (0 : Int32) = 0 from rfl)]
  rw [m_is9 (by omega) t2 n9 n10 hlt (by omega) ok_l10, mb3_s]
  by_cases c10 : isW tx w (e - w) [115, 105, 103, 110, 97, 108] = true
  · have hlen : e - w = 6 := (of_decide_eq_true c10).1
    rw [if_pos c10] at hix
    rw [c10, bI_t, if_neg (show ¬ (1 : Int32) = 0 by decide), ← hix, if_neg (show ¬ sI 10 = (0 : Int32) by decide), if_neg (show ¬ sI 10 = (1 : Int32) by decide), if_neg (show ¬ sI 10 = (2 : Int32) by decide), if_neg (show ¬ sI 10 = (3 : Int32) by decide), if_neg (show ¬ sI 10 = (4 : Int32) by decide), if_neg (show ¬ sI 10 = (5 : Int32) by decide), if_neg (show ¬ sI 10 = (6 : Int32) by decide), if_neg (show ¬ sI 10 = (7 : Int32) by decide), if_neg (show ¬ sI 10 = (8 : Int32) by decide), if_neg (show ¬ sI 10 = (9 : Int32) by decide), if_pos (show sI 10 = (10 : Int32) from rfl)]
    exact rl_wrap (st_signal (b := 0) hfu hL hP1 hb (by omega) (by omega)) fm
  rw [if_neg c10] at hix
  rw [Bool.not_eq_true] at c10
  rw [c10, bI_f, if_pos (show (0 : Int32) = 0 from rfl)]
  rw [m_is9 (by omega) t2 n9 n10 hlt (by omega) ok_l11, mb3_s]
  by_cases c11 : isW tx w (e - w) [112, 114, 111, 116, 101, 99, 116] = true
  · have hlen : e - w = 7 := (of_decide_eq_true c11).1
    rw [if_pos c11] at hix
    rw [c11, bI_t, if_neg (show ¬ (1 : Int32) = 0 by decide), ← hix, if_neg (show ¬ sI 11 = (0 : Int32) by decide), if_neg (show ¬ sI 11 = (1 : Int32) by decide), if_neg (show ¬ sI 11 = (2 : Int32) by decide), if_neg (show ¬ sI 11 = (3 : Int32) by decide), if_neg (show ¬ sI 11 = (4 : Int32) by decide), if_neg (show ¬ sI 11 = (5 : Int32) by decide), if_neg (show ¬ sI 11 = (6 : Int32) by decide), if_neg (show ¬ sI 11 = (7 : Int32) by decide), if_neg (show ¬ sI 11 = (8 : Int32) by decide), if_neg (show ¬ sI 11 = (9 : Int32) by decide), if_neg (show ¬ sI 11 = (10 : Int32) by decide), if_pos (show sI 11 = (11 : Int32) from rfl)]
    exact rl_wrap (st_protect (b := 0) hfu hL hP1 hb (by omega) (by omega)) fm
  rw [if_neg c11] at hix
  rw [Bool.not_eq_true] at c11
  rw [c11, bI_f, if_pos (show (0 : Int32) = 0 from rfl)]
  rw [m_is9 (by omega) t2 n9 n10 hlt (by omega) ok_l12, mb3_s]
  by_cases c12 : isW tx w (e - w) [114, 101, 97, 100] = true
  · have hlen : e - w = 4 := (of_decide_eq_true c12).1
    rw [if_pos c12] at hix
    rw [c12, bI_t, if_neg (show ¬ (1 : Int32) = 0 by decide), ← hix, if_neg (show ¬ sI 12 = (0 : Int32) by decide), if_neg (show ¬ sI 12 = (1 : Int32) by decide), if_neg (show ¬ sI 12 = (2 : Int32) by decide), if_neg (show ¬ sI 12 = (3 : Int32) by decide), if_neg (show ¬ sI 12 = (4 : Int32) by decide), if_neg (show ¬ sI 12 = (5 : Int32) by decide), if_neg (show ¬ sI 12 = (6 : Int32) by decide), if_neg (show ¬ sI 12 = (7 : Int32) by decide), if_neg (show ¬ sI 12 = (8 : Int32) by decide), if_neg (show ¬ sI 12 = (9 : Int32) by decide), if_neg (show ¬ sI 12 = (10 : Int32) by decide), if_neg (show ¬ sI 12 = (11 : Int32) by decide), if_pos (show sI 12 = (12 : Int32) from rfl)]
    exact rl_wrap (st_lread hfu hL hP1 h7 s8 hbn (by omega) (by omega)) fm
  rw [if_neg c12] at hix
  rw [Bool.not_eq_true] at c12
  rw [c12, bI_f, if_pos (show (0 : Int32) = 0 from rfl)]
  rw [m_is9 (by omega) t2 n9 n10 hlt (by omega) ok_l13, mb3_s]
  by_cases c13 : isW tx w (e - w) [119, 97, 116, 99, 104] = true
  · have hlen : e - w = 5 := (of_decide_eq_true c13).1
    rw [if_pos c13] at hix
    rw [c13, bI_t, if_neg (show ¬ (1 : Int32) = 0 by decide), ← hix, if_neg (show ¬ sI 13 = (0 : Int32) by decide), if_neg (show ¬ sI 13 = (1 : Int32) by decide), if_neg (show ¬ sI 13 = (2 : Int32) by decide), if_neg (show ¬ sI 13 = (3 : Int32) by decide), if_neg (show ¬ sI 13 = (4 : Int32) by decide), if_neg (show ¬ sI 13 = (5 : Int32) by decide), if_neg (show ¬ sI 13 = (6 : Int32) by decide), if_neg (show ¬ sI 13 = (7 : Int32) by decide), if_neg (show ¬ sI 13 = (8 : Int32) by decide), if_neg (show ¬ sI 13 = (9 : Int32) by decide), if_neg (show ¬ sI 13 = (10 : Int32) by decide), if_neg (show ¬ sI 13 = (11 : Int32) by decide), if_neg (show ¬ sI 13 = (12 : Int32) by decide), if_pos (show sI 13 = (13 : Int32) from rfl)]
    exact rl_wrap (st_lwatch hfu hL hP1 h7 s8 hbn (by omega) (by omega)) fm
  rw [if_neg c13] at hix
  rw [Bool.not_eq_true] at c13
  rw [c13, bI_f, if_pos (show (0 : Int32) = 0 from rfl)]
  rw [← hix, if_neg (show ¬ (-1 : Int32) = 0 by decide), if_neg (show ¬ (-1 : Int32) = 1 by decide), if_neg (show ¬ (-1 : Int32) = 2 by decide), if_neg (show ¬ (-1 : Int32) = 3 by decide), if_neg (show ¬ (-1 : Int32) = 4 by decide), if_neg (show ¬ (-1 : Int32) = 5 by decide), if_neg (show ¬ (-1 : Int32) = 6 by decide), if_neg (show ¬ (-1 : Int32) = 7 by decide), if_neg (show ¬ (-1 : Int32) = 8 by decide), if_neg (show ¬ (-1 : Int32) = 9 by decide), if_neg (show ¬ (-1 : Int32) = 10 by decide), if_neg (show ¬ (-1 : Int32) = 11 by decide), if_neg (show ¬ (-1 : Int32) = 12 by decide), if_neg (show ¬ (-1 : Int32) = 13 by decide), c_fail l9, mb2_s, w8, m_fail, mb3_s, n9]
  have hX : Fx (mset (mset A 1 12 1) 1 13 (sI w)) (mset (mset M1 732 11 1) 732 12 (sI w)) := Fx_i (k := 1) (by omega) (by omega) hbn
  have := rl_bad (le := le) hP1 (A' := mset (mset A 1 12 1) 1 13 (sI w)) (M' := mset (mset M1 732 11 1) 732 12 (sI w)) (by omega) (by omega) (fun x y u => by rw [mset_n (by omega), mset_n (by omega)]) (fun x y u1 u2 u3 => by rw [mset_n (by omega), mset_n (by omega)]) hX rfl rfl
  exact rl_wrap this fm
/-! READING: the whole text, line by line -/
def leF (tx : Nat → Nat) : Nat → Nat → Nat
  | 0, a => a
  | r + 1, a => if tx a = 10 then a else leF tx r (a + 1)
theorem le_b {tx : Nat → Nat} : ∀ r a, a ≤ leF tx r a ∧ leF tx r a ≤ a + r := by
  intro r
  induction r with
  | zero => intro a; exact ⟨Nat.le_refl _, Nat.le_refl _⟩
  | succ r ih =>
    intro a
    unfold leF
    by_cases c : tx a = 10
    · rw [if_pos c]
      omega
    · rw [if_neg c]
      have := ih (a + 1)
      omega
theorem sI_10 {x : Nat} (h : x < 256) : (sI x = 10) ↔ x = 10 := by rw [show (10 : Int32) = sI 10 from rfl, sI_eq (by omega) (by omega)]
theorem c_fle {fu n : Nat} {z : Int32} {A : mwM} {L : mwL} {tx : Nat → Nat} (hT : TxC A n tx) : ∀ (r q a : Nat) (B : mwM), a + r = n → r < q → B 1 6 = sI a → (∀ x y, ¬ (x = 1 ∧ y = 6) → B x y = A x y) → fX8_findLineEnd_h5 fu z q (B, L) = some (mset B 1 6 (sI (leF tx r a)), L) := by
  intro r
  have hn := hT.2.1
  induction r with
  | zero =>
    intro q a B ha hq h5 hB
    obtain ⟨q, rfl⟩ : ∃ y, q = y + 1 := ⟨q - 1, by omega⟩
    show fX8_findLineEnd_i5 fu z (fX8_findLineEnd_h5 fu z q) B L = _
    unfold fX8_findLineEnd_i5 fX8_findLineEnd_b43
    rw [h5, hB 1 4 (by omega), hT.1, if_pos (show sI n ≤ sI a by rw [sI_le (by omega) (by omega)]; omega)]
    unfold leF
    rw [mset_id h5]
  | succ r ih =>
    intro q a B ha hq h5 hB
    obtain ⟨q, rfl⟩ : ∃ y, q = y + 1 := ⟨q - 1, by omega⟩
    obtain ⟨t1, t2, t3⟩ := hT.2.2 a (by omega)
    show fX8_findLineEnd_i5 fu z (fX8_findLineEnd_h5 fu z q) B L = _
    unfold fX8_findLineEnd_i5 fX8_findLineEnd_b43
    rw [h5, hB 1 4 (by omega), hT.1, if_neg (show ¬ sI n ≤ sI a by rw [sI_le (by omega) (by omega)]; omega), mck_s (by omega) (by omega), sI_nn (by omega), hB 2 a (by omega), t1]
    unfold leF
    by_cases c : tx a = 10
    · rw [if_pos c, if_pos (show sI (tx a) = 10 by rw [c]; rfl), mset_id h5]
    · rw [if_neg c, if_neg (show ¬ sI (tx a) = 10 by rw [sI_10 t3]; exact c), mlet_e, sI_1, ih q (a + 1) (mset B 1 6 (sI (a + 1))) (by omega) (by omega) mset_s (fun x y u => by rw [mset_n u]; exact hB x y u), mset_ii]
theorem m_fle {fu n : Nat} {z : Int32} {A : mwM} {L : mwL} {tx : Nat → Nat} {r2 : (Int32 × mwM × mwL) → Option (Int32 × mwM × mwL)} (hT : TxM A n tx) : ∀ (r q a : Nat) (B : mwM), a + r = n → r < q → B 732 7 = sI a → (∀ x y, ¬ (x = 732 ∧ y = 7) → B x y = A x y) → fX19_read_h15 fu r2 q (z, B, L) = fX19_read_b53 fu r2 z (mset B 732 7 (sI (leF tx r a))) L := by
  intro r
  have hn := hT.2.1
  induction r with
  | zero =>
    intro q a B ha hq h5 hB
    obtain ⟨q, rfl⟩ : ∃ y, q = y + 1 := ⟨q - 1, by omega⟩
    show fX19_read_i15 fu r2 (fX19_read_h15 fu r2 q) z B L = _
    unfold fX19_read_i15
    rw [h5, hB 732 2 (by omega), hT.1, if_pos (show sI n ≤ sI a by rw [sI_le (by omega) (by omega)]; omega)]
    unfold leF
    rw [mset_id h5]
  | succ r ih =>
    intro q a B ha hq h5 hB
    obtain ⟨q, rfl⟩ : ∃ y, q = y + 1 := ⟨q - 1, by omega⟩
    obtain ⟨t1, t2, t3⟩ := hT.2.2 a (by omega)
    show fX19_read_i15 fu r2 (fX19_read_h15 fu r2 q) z B L = _
    unfold fX19_read_i15
    rw [h5, hB 732 2 (by omega), hT.1, if_neg (show ¬ sI n ≤ sI a by rw [sI_le (by omega) (by omega)]; omega), mck_s (by omega) (by omega), sI_nn (by omega), hB 733 a (by omega), t1]
    unfold leF
    by_cases c : tx a = 10
    · rw [if_pos c, if_pos (show sI (tx a) = 10 by rw [c]; rfl), mset_id h5]
    · rw [if_neg c, if_neg (show ¬ sI (tx a) = 10 by rw [sI_10 t3]; exact c), mlet_e, sI_1, ih q (a + 1) (mset B 732 7 (sI (a + 1))) (by omega) (by omega) mset_s (fun x y u => by rw [mset_n u]; exact hB x y u), mset_ii]
/-- what both have read, somewhere in the text -/
def PE (A M : mwM) (Lc Lm : mwL) (n p : Nat) : Prop := ∃ C T X S K R W nl ow ct sg tu ky rd wt, PR A M Lc Lm n C T X S K R W nl ow ct sg tu ky rd wt ∧ 12 * nl.length ≤ p ∧ 15 * K ≤ p
theorem PE_f {A A' M M' : mwM} {Lc Lm : mwL} {n p p' : Nat} (h : PE A M Lc Lm n p) (hp : p ≤ p') (hA : ∀ a y, a ≠ 1 ∨ y = 3 → A' a y = A a y) (hM : ∀ a y, ¬ (a = 732 ∧ 6 ≤ y ∧ y ≤ 13) → M' a y = M a y) : PE A' M' Lc Lm n p' := by
  obtain ⟨C, T, X, S, K, R, W, nl, ow, ct, sg, tu, ky, rd, wt, h1, h2, h3⟩ := h
  exact ⟨C, T, X, S, K, R, W, nl, ow, ct, sg, tu, ky, rd, wt, PR_f h1 hA (fun a y u1 _ _ => hM a y u1), by omega, by omega⟩
/-- the reference at the end of the text -/
noncomputable abbrev eoM (fu : Nat) (M : mwM) (L : mwL) : Option (Int32 × mwM × mwL) :=
  (if 0 < (M 732 19) then fX19_read_b103 fu M L else mb3 (DX19_fail fu 4 (M 732 2) M L) (fun r5 M3 L4 => (if r5 = 0 then fX19_read_b108 fu 0 M3 L4 else fX19_read_b103 fu M3 L4)))
abbrev fT (A A' M M' : mwM) (Lc Lc' Lm Lm' : mwL) : Prop := (∀ a y, rA a y → ¬ (a = 1 ∧ y = 6) → A' a y = A a y) ∧ (∀ a y, rM a y → ¬ (a = 732 ∧ y = 7) → M' a y = M a y) ∧ (∀ a, ¬ (293 ≤ a ∧ a ≤ 724) → Lc' a = Lc a) ∧ ∀ a, a < 964 → a ≠ 778 → Lm' a = Lm a
theorem fT_t {A A1 A2 M M1 M2 : mwM} {Lc Lc1 Lc2 Lm Lm1 Lm2 : mwL} (h : fT A A1 M M1 Lc Lc1 Lm Lm1) (k : fT A1 A2 M1 M2 Lc1 Lc2 Lm1 Lm2) : fT A A2 M M2 Lc Lc2 Lm Lm2 :=
  ⟨fun a y u1 u2 => by rw [k.1 a y u1 u2, h.1 a y u1 u2], fun a y u1 u2 => by rw [k.2.1 a y u1 u2, h.2.1 a y u1 u2], fun a u => by rw [k.2.2.1 a u, h.2.2.1 a u], fun a u1 u2 => by rw [k.2.2.2 a u1 u2, h.2.2.2 a u1 u2]⟩
theorem fT_0 {A M : mwM} {Lc Lm : mwL} : fT A A M M Lc Lc Lm Lm := ⟨fun _ _ _ _ => rfl, fun _ _ _ _ => rfl, fun _ _ => rfl, fun _ _ _ => rfl⟩
theorem rt_end {fu q : Nat} {p v : Int32} {A : mwM} {L : mwL} (h : ¬ A 1 12 = 0) : fX8_readText_h19 fu (q + 1) (p, v, A, L) = fX8_readText_b87 fu A L := by
  show fX8_readText_i19 fu (fX8_readText_h19 fu q) p v A L = _
  unfold fX8_readText_i19
  by_cases c1 : 6000 ≤ v
  · rw [if_pos c1]
  · rw [if_neg c1]
    by_cases c2 : (A 1 4) ≤ p
    · rw [if_pos c2]
    · rw [if_neg c2, if_neg h]
theorem st_lines2 {fu n : Nat} {tx : Nat → Nat} (hfu : 6100 ≤ fu) : ∀ (m p v q q' : Nat) (A M : mwM) (Lc Lm : mwL), n ≤ p + m → p ≤ n + 1 → m < q → m < q' → v ≤ p → TxC A n tx → TxM M n tx → PE A M Lc Lm n p → A 1 12 = 0 → ∃ A' M' Lc' Lm', fX8_readText_h19 fu q (sI p, sI v, A, Lc) = fX8_readText_b87 fu A' Lc' ∧ ((A' 1 12 = 0 ∧ fX19_read_h2 fu q' (sI p, M, Lm) = eoM fu M' Lm') ∨ (Fx A' M' ∧ fX19_read_h2 fu q' (sI p, M, Lm) = some (0, M', Lm'))) ∧ TxC A' n tx ∧ TxM M' n tx ∧ PE A' M' Lc' Lm' n (n + 1) ∧ fT A A' M M' Lc Lc' Lm Lm' := by
  intro m
  induction m with
  | zero =>
    intro p v q q' A M Lc Lm h1 h2 h3 h4 h5 hC hM hP h12
    have hn := hC.2.1
    obtain ⟨q, rfl⟩ : ∃ y, q = y + 1 := ⟨q - 1, by omega⟩
    obtain ⟨q', rfl⟩ : ∃ y, q' = y + 1 := ⟨q' - 1, by omega⟩
    refine ⟨A, M, Lc, Lm, ?_, Or.inl ⟨h12, ?_⟩, hC, hM, PE_f hP (by omega) (fun _ _ _ => rfl) (fun _ _ _ => rfl), fT_0⟩
    · show fX8_readText_i19 fu (fX8_readText_h19 fu q) (sI p) (sI v) A Lc = _
      unfold fX8_readText_i19
      by_cases c1 : (6000 : Int32) ≤ sI v
      · rw [if_pos c1]
      · rw [if_neg c1, hC.1, if_pos (show sI n ≤ sI p by rw [sI_le (by omega) (by omega)]; omega)]
    · show fX19_read_i2 fu (fX19_read_h2 fu q') (sI p) M Lm = _
      unfold fX19_read_i2
      rw [if_pos (show M 732 2 ≤ sI p by rw [hM.1, sI_le (by omega) (by omega)]; omega)]
  | succ m ih =>
    intro p v q q' A M Lc Lm h1 h2 h3 h4 h5 hC hM hP h12
    have hn := hC.2.1
    obtain ⟨q, rfl⟩ : ∃ y, q = y + 1 := ⟨q - 1, by omega⟩
    obtain ⟨q', rfl⟩ : ∃ y, q' = y + 1 := ⟨q' - 1, by omega⟩
    by_cases cp : n ≤ p
    · refine ⟨A, M, Lc, Lm, ?_, Or.inl ⟨h12, ?_⟩, hC, hM, PE_f hP (by omega) (fun _ _ _ => rfl) (fun _ _ _ => rfl), fT_0⟩
      · show fX8_readText_i19 fu (fX8_readText_h19 fu q) (sI p) (sI v) A Lc = _
        unfold fX8_readText_i19
        by_cases c1 : (6000 : Int32) ≤ sI v
        · rw [if_pos c1]
        · rw [if_neg c1, hC.1, if_pos (show sI n ≤ sI p by rw [sI_le (by omega) (by omega)]; omega)]
      · show fX19_read_i2 fu (fX19_read_h2 fu q') (sI p) M Lm = _
        unfold fX19_read_i2
        rw [if_pos (show M 732 2 ≤ sI p by rw [hM.1, sI_le (by omega) (by omega)]; omega)]
    obtain ⟨lb1, lb2⟩ := le_b (tx := tx) (n - p) p
    generalize hle : leF tx (n - p) p = le at lb1 lb2
    -- the class: to the first word
    have cF : DX8_findLineEnd fu (sI p) A Lc = some (mset A 1 6 (sI le), Lc) := by
      unfold DX8_findLineEnd
      rw [mlet_e, c_fle (A := A) (tx := tx) hC (n - p) fu p (mset A 1 6 (sI p)) (by omega) (by omega) mset_s (fun x y u => mset_n u), hle, mset_ii]
    generalize hA2 : mset (mset A 1 6 (sI le)) 1 5 (sI p) = A2
    have fa2 : ∀ x y, ¬ (x = 1 ∧ (y = 5 ∨ y = 6)) → A2 x y = A x y := fun x y u => by rw [← hA2, mset_n (by omega), mset_n (by omega)]
    have a5 : A2 1 5 = sI p := by rw [← hA2, mset_s]
    have a6 : A2 1 6 = sI le := by rw [← hA2, mset_n (by omega), mset_s]
    have hC2 : TxC A2 n tx := TxC_f hC (fun x y u => fa2 x y (by omega))
    obtain ⟨A3, n1, n2, n3, n4⟩ := c_next (fu := fu) (L := Lc) hfu hC2 a5 a6 lb1 (by omega)
    generalize hA4 : mset A3 1 7 (A3 1 8) = A4
    have fa4 : ∀ x y, ¬ (x = 1 ∧ 5 ≤ y ∧ y ≤ 9) → A4 x y = A x y := fun x y u => by rw [← hA4, mset_n (by omega), n4 x y (by omega), fa2 x y (by omega)]
    have fa34 : ∀ x y, ¬ (x = 1 ∧ y = 7) → A4 x y = A3 x y := fun x y u => by rw [← hA4, mset_n (by omega)]
    have c7 : A4 1 7 = A3 1 8 := by rw [← hA4, mset_s]
    -- the reference
    generalize hM2 : mset (mset M 732 7 (sI le)) 732 6 (sI p) = M2
    have fm2 : ∀ x y, ¬ (x = 732 ∧ (y = 6 ∨ y = 7)) → M2 x y = M x y := fun x y u => by rw [← hM2, mset_n (by omega), mset_n (by omega)]
    have b6 : M2 732 6 = sI p := by rw [← hM2, mset_s]
    have b7 : M2 732 7 = sI le := by rw [← hM2, mset_n (by omega), mset_s]
    have hT2 : TxM M2 n tx := TxM_f hM (fun x y u => fm2 x y (by omega))
    obtain ⟨M3, o1, o2, o3, o4⟩ := m_next (fu := fu) (L := Lm) hfu hT2 b6 b7 lb1 (by omega)
    have fm3 : ∀ x y, ¬ (x = 732 ∧ (y = 6 ∨ y = 7 ∨ y = 9 ∨ y = 10)) → M3 x y = M x y := fun x y u => by rw [o4 x y (by omega), fm2 x y (by omega)]
    have hC4 : TxC A4 n tx := TxC_f hC (fun x y u => fa4 x y (by omega))
    have hT3 : TxM M3 n tx := TxM_f hM (fun x y u => fm3 x y (by omega))
    have d6 : A4 1 6 = sI le := by rw [fa34 _ _ (by omega), n4 _ _ (by omega)]; exact a6
    have d12 : A4 1 12 = 0 := by rw [fa4 _ _ (by omega)]; exact h12
    have g7 : M3 732 7 = sI le := by rw [o4 _ _ (by omega)]; exact b7
    have hP4 : PE A4 M3 Lc Lm n p := PE_f hP (Nat.le_refl _) (fun x y u => fa4 x y (by omega)) (fun x y u => fm3 x y (by omega))
    obtain ⟨bb1, bb2, bb3, bb4, bb5, bb6, bb7, _⟩ := nw_b (tx := tx) lb1
    have unC : fX8_readText_h19 fu (q + 1) (sI p, sI v, A, Lc) = (if (A4 1 9) ≤ 0 then fX8_readText_b74 fu (fX8_readText_h19 fu q) (sI v) A4 Lc else mb2 (DX8_readLine fu A4 Lc) (fun M11 L12 => fX8_readText_b74 fu (fX8_readText_h19 fu q) (sI v) M11 L12)) := by
      show fX8_readText_i19 fu (fX8_readText_h19 fu q) (sI p) (sI v) A Lc = _
      unfold fX8_readText_i19
      rw [if_neg (show ¬ (6000 : Int32) ≤ sI v by rw [show (6000 : Int32) = sI 6000 from rfl, sI_le (by omega) (by omega)]; omega), hC.1, if_neg (show ¬ sI n ≤ sI p by rw [sI_le (by omega) (by omega)]; omega), if_pos h12, cF, mb2_s, mlet_e, hA2, n1, mb2_s, mlet_e, hA4]
    have unM : fX19_read_h2 fu (q' + 1) (sI p, M, Lm) = (if bI (nwK tx le p) = (0 : Int32) then fX19_read_b74 fu (fX19_read_h2 fu q') M3 Lm else mb3 (DX19_line fu M3 Lm) (fun r20 M18 L19 => (if r20 = 0 then some (0, M18, L19) else fX19_read_b74 fu (fX19_read_h2 fu q') M18 L19))) := by
      show fX19_read_i2 fu (fX19_read_h2 fu q') (sI p) M Lm = _
      unfold fX19_read_i2
      rw [hM.1, if_neg (show ¬ sI n ≤ sI p by rw [sI_le (by omega) (by omega)]; omega), mlet_e, m_fle (A := M) (tx := tx) hM (n - p) fu p (mset M 732 7 (sI p)) (by omega) (by omega) mset_s (fun x y u => mset_n u), hle, mset_ii]
      unfold fX19_read_b53
      rw [mlet_e, hM2, o1, mb3_s]
    -- the next line
    have go : ∀ (A5 M5 : mwM) (Lc5 Lm5 : mwL), A5 1 6 = sI le → M5 732 7 = sI le → TxC A5 n tx → TxM M5 n tx → PE A5 M5 Lc5 Lm5 n (le + 1) → A5 1 12 = 0 → ∃ A' M' Lc' Lm', fX8_readText_b74 fu (fX8_readText_h19 fu q) (sI v) A5 Lc5 = fX8_readText_b87 fu A' Lc' ∧ ((A' 1 12 = 0 ∧ fX19_read_b74 fu (fX19_read_h2 fu q') M5 Lm5 = eoM fu M' Lm') ∨ (Fx A' M' ∧ fX19_read_b74 fu (fX19_read_h2 fu q') M5 Lm5 = some (0, M', Lm'))) ∧ TxC A' n tx ∧ TxM M' n tx ∧ PE A' M' Lc' Lm' n (n + 1) ∧ fT A5 A' M5 M' Lc5 Lc' Lm5 Lm' := fun A5 M5 Lc5 Lm5 y1 y2 y3 y4 y5 y6 => by
      unfold fX8_readText_b74 fX19_read_b74
      rw [y1, y2, mlet_e, mlet_e, mlet_e, sI_1, sI_1]
      exact ih (le + 1) (v + 1) q q' A5 M5 Lc5 Lm5 (by omega) (by omega) (by omega) (by omega) (by omega) y3 y4 y5 y6
    have f04 : fT A A4 M M3 Lc Lc Lm Lm := ⟨fun a y u1 u2 => fa4 a y (by omega), fun a y u1 u2 => fm3 a y (by omega), fun _ _ => rfl, fun _ _ _ => rfl⟩
    rw [unC, unM]
    cases hk : nwK tx le p with
    | false =>
      obtain ⟨r1, r2, r3⟩ := n3 hk
      rw [bI_f, if_pos (show (0 : Int32) = 0 from rfl), if_pos (show A4 1 9 ≤ 0 by rw [fa34 _ _ (by omega), r3]; decide)]
      obtain ⟨A', M', Lc', Lm', x1, x2, x3, x4, x5, x6⟩ := go A4 M3 Lc Lm d6 g7 hC4 hT3 (PE_f hP4 (by omega) (fun _ _ _ => rfl) (fun _ _ _ => rfl)) d12
      exact ⟨A', M', Lc', Lm', x1, x2, x3, x4, x5, fT_t f04 x6⟩
    | true =>
      obtain ⟨r1, r2, r3⟩ := n2 hk
      obtain ⟨t1, t2, t3⟩ := o2 hk
      have hlt := bb5 hk
      rw [bI_t, if_neg (show ¬ (1 : Int32) = 0 by decide), if_neg (show ¬ A4 1 9 ≤ 0 by rw [fa34 _ _ (by omega), r3, show (0 : Int32) = sI 0 from rfl, sI_le (by omega) (by omega)]; omega)]
      obtain ⟨C, T, X, S, K, R, W, nl, ow, ct, sg, tu, ky, rd, wt, pr, pl, pk⟩ := hP4
      obtain ⟨A5, M5, Lc5, Lm5, gd, e1, e2, ⟨uA, uM, uC, uL⟩, e3, e4⟩ := st_line (fu := fu) (w := nwB tx le p) (e := nwE tx le p) (p := p) hfu ⟨hC4, hT3, d6, g7, by omega, by rw [fa34 _ _ (by omega)]; exact r1, t1, bb4, d12⟩ ⟨by rw [fa34 _ _ (by omega)]; exact r2, by rw [fa34 _ _ (by omega)]; exact r3, t2, t3, hlt⟩ pr (by rw [c7]; exact r2) bb6 bb1 pl pk
      have hC5 : TxC A5 n tx := TxC_f hC4 (fun x y u => by
        rcases u with ⟨rfl, rfl⟩ | rfl
        · exact uA _ _ (by omega)
        · exact uA _ _ (by omega))
      have hT5 : TxM M5 n tx := TxM_f hT3 (fun x y u => by
        rcases u with ⟨rfl, rfl⟩ | rfl
        · exact uM _ _ (by omega)
        · exact uM _ _ (by omega))
      have f45 : fT A4 A5 M3 M5 Lc Lc5 Lm Lm5 := ⟨fun a y u1 _ => uA a y u1, fun a y u1 _ => uM a y u1, uC, uL⟩
      rw [e1, mb2_s, e2, mb3_s]
      cases gd with
      | true =>
        rw [if_pos rfl] at e3
        rw [bI_t, if_neg (show ¬ (1 : Int32) = 0 by decide)]
        obtain ⟨A', M', Lc', Lm', x1, x2, x3, x4, x5, x6⟩ := go A5 M5 Lc5 Lm5 (by rw [uA _ _ (by omega)]; exact d6) (by rw [uM _ _ (by omega)]; exact g7) hC5 hT5 e4 e3
        exact ⟨A', M', Lc', Lm', x1, x2, x3, x4, x5, fT_t f04 (fT_t f45 x6)⟩
      | false =>
        rw [if_neg (by decide)] at e3
        rw [bI_f, if_pos (show (0 : Int32) = 0 from rfl)]
        obtain ⟨C', T', X', S', K', R', W', nl', ow', ct', sg', tu', ky', rd', wt', p1, p2, p3⟩ := e4
        refine ⟨A5, M5, Lc5, Lm5, ?_, Or.inr ⟨e3, rfl⟩, hC5, hT5, ⟨C', T', X', S', K', R', W', nl', ow', ct', sg', tu', ky', rd', wt', p1, by omega, by omega⟩, fT_t f04 f45⟩
        unfold fX8_readText_b74
        rw [mlet_e, mlet_e]
        obtain ⟨q, rfl⟩ : ∃ y, q = y + 1 := ⟨q - 1, by omega⟩
        exact rt_end (Fx_n e3)
/-! READING: the whole is judged -/
/-- nothing is packed yet -/
def JZ (A M : mwM) : Prop := A 61 11 = sI 0 ∧ M 732 67 = sI 0 ∧ ∀ q, q < 12 → ∀ y, y ≤ 40 → M (941 + 53 * q + 8) y = 0
theorem pr_sg {A M : mwM} {Lc Lm : mwL} {n C T X S K R W : Nat} {nl : List Nm} {ow ct : Nat → Nat} {sg : Nat → Nat → Nat} {tu : Nat → Bool} {ky rd wt : Nat → Nat → Nat} (hP : PR A M Lc Lm n C T X S K R W nl ow ct sg tu ky rd wt) : SgB A S (sg 0) (sg 1) (fun s => ow (ct (sg 2 s))) ∧ SgM M S (sg 0) (sg 1) (fun s => ow (ct (sg 2 s))) tu ∧ ∀ s, s < S → ow (ct (sg 2 s)) < C := by
  obtain ⟨⟨c1, c2, c3⟩, pT, pX, pB, ⟨s1, s2, s3, s4⟩, pK, pR, pW, pN, nB⟩ := hP
  have own : ∀ s, s < S → ow (ct (sg 2 s)) < C := fun s hs => by
    obtain ⟨_, _, ⟨_, _, g5⟩, _⟩ := s4 s hs
    exact (pT.2.2.2.1 _ (pX.2.2.2.1 _ g5).2.1).2.2.1
  refine ⟨⟨s1, s3, fun s hs => ?_⟩, ⟨s2, s3, fun s hs => ?_⟩, own⟩
  · obtain ⟨⟨a1, a2, a3, a4⟩, ⟨b1, b2, b3, b4⟩, ⟨g3, g4, g5⟩, _, _, g8, _⟩ := s4 s hs
    have := own s hs
    exact ⟨a1, a3, a4, b1, b3, b4, g8, by dsimp only; omega⟩
  · obtain ⟨⟨a1, a2, a3, a4⟩, ⟨b1, b2, b3, b4⟩, ⟨g3, g4, g5⟩, _, ⟨h1, h2⟩, g8, _⟩ := s4 s hs
    have := own s hs
    obtain ⟨x1, x2, _⟩ := pX.2.2.2.1 _ g5
    have hX := pX.2.2.1
    have hT := pT.2.2.1
    exact ⟨a2, a3, a4, b2, b3, b4, h2, by dsimp only; omega, sg 2 s, ct (sg 2 s), g4, by omega, x1, by omega, (pT.2.2.2.1 _ x2).2.1⟩
theorem je_0 {A M : mwM} {S : Nat} {bt pe co ky : Nat → Nat} {tu : Nat → Bool} (h : JZ A M) : JE A M S bt pe co ky tu 0 := by
  refine ⟨0, fun _ => 0, fun _ => 0, fun _ => 0, fun _ => 0, fun _ => 0, fun _ => 0, fun _ => 0, fun _ => 0, h.1, h.2.1, ?_, fun f hf => absurd hf (by omega), fun s hs hp => absurd hp (by omega), fun s t hs ht hp => absurd hp (by omega), fun f g hf => absurd hf (by omega), h.2.2⟩
  have := cnt_le (fun s => decide (0 ≤ pkn (co s) (ky s))) S
  omega
theorem st_judge {fu n C T X S K R W : Nat} {A M : mwM} {Lc Lm : mwL} {tx : Nat → Nat} {nl : List Nm} {ow ct : Nat → Nat} {sg : Nat → Nat → Nat} {tu : Nat → Bool} {ky rd wt : Nat → Nat → Nat} (F0 G : mwM → mwL → Option (Int32 × mwM × mwL)) (hfu : 90000 ≤ fu) (hP : PR A M Lc Lm n C T X S K R W nl ow ct sg tu ky rd wt) (hC : TxC A n tx) (hM : TxM M n tx) (h12 : A 1 12 = 0) (hZ : JZ A M) :
    (∃ A' M', fX8_readText_b87 fu A Lc = some (A', Lc) ∧ mb3 (eoM fu M Lm) (fun r19 M17 L18 => (if r19 = 0 then F0 M17 L18 else mb3 (DX19_join fu M17 L18) (fun r23 M21 L22 => (if r23 = 0 then F0 M21 L22 else G M21 L22)))) = F0 M' Lm ∧ Fx A' M' ∧ (∀ a y, ¬ (a = 1 ∧ (y = 12 ∨ y = 13)) → A' a y = A a y) ∧ fnM M M' ∧ ∀ q, q < 12 → ∀ y, y ≤ 40 → M' (941 + 53 * q + 8) y = 0) ∨ (0 < C ∧ (∀ s, s < S → ¬ TLg (sg 0) (fun s => kyf (ky 0) (ky 1) (ky 2) (ow (ct (sg 2 s))) (sg 1 s) K 0) s) ∧ fX8_readText_b87 fu A Lc = some (A, Lc) ∧ mb3 (eoM fu M Lm) (fun r19 M17 L18 => (if r19 = 0 then F0 M17 L18 else mb3 (DX19_join fu M17 L18) (fun r23 M21 L22 => (if r23 = 0 then F0 M21 L22 else G M21 L22)))) = mb3 (DX19_join fu M Lm) (fun r23 M21 L22 => (if r23 = 0 then F0 M21 L22 else G M21 L22))) := by
  obtain ⟨sB, sM, own⟩ := pr_sg hP
  obtain ⟨⟨c1, c2, c3⟩, pT, pX, pB, ⟨s1, s2, s3, s4⟩, ⟨kC, kM, kk⟩, pR, pW, pN, nB⟩ := id hP
  have hn := hC.2.1
  unfold fX8_readText_b87 DX8_judgeWhole fX8_readText_b98 fX8_judgeWhole_b63 eoM
  rw [if_pos h12, c1, c2]
  by_cases c0 : C = 0
  · subst c0
    rw [if_pos (show sI 0 = (0 : Int32) from rfl), c_fail h12, mb2_s, mb2_s, if_neg (show ¬ (0 : Int32) < sI 0 by decide), m_fail, mb3_s, if_pos (show (0 : Int32) = 0 from rfl), hC.1, hM.1]
    unfold fX19_read_b108
    refine Or.inl ⟨_, _, rfl, ?_, Fx_i (k := 4) (A := A) (M := M) (w := n) (by omega) (by omega) (by omega), fun a y u => by rw [mset_n (by omega), mset_n (by omega)], fun a y u1 u2 u3 u4 => by rw [mset_n (by omega), mset_n (by omega)], fun q hq y hy => by rw [mset_n (by omega), mset_n (by omega)]; exact hZ.2.2 q hq y hy⟩
    rfl
  rw [if_neg (show ¬ sI C = (0 : Int32) by rw [show (0 : Int32) = sI 0 from rfl, sI_eq (by omega) (by omega)]; exact c0), if_pos (show (0 : Int32) < sI C by rw [show (0 : Int32) = sI 0 from rfl, sI_lt (by omega) (by omega)]; omega)]
  unfold fX19_read_b103 fX19_read_b108
  have e1 : mzz (1 : Int32) (some ((1 : Int32), M, Lm)) = some (1, M, Lm) := rfl
  rw [e1, mb3_s, if_neg (show ¬ (1 : Int32) = 0 by decide)]
  rcases c_findTooLarge (fu := fu) (C := C) (L := Lc) (by omega) c3 sB kC own with ⟨no, eF⟩ | ⟨t, ht, tl, mn, eF⟩
  · rw [eF, mb3_s, if_pos (show (-1 : Int32) < 0 by decide), mb2_s]
    exact Or.inr ⟨by omega, no, rfl, rfl⟩
  · rw [eF, mb3_s, if_neg (ns_s (by omega)), mck_s (show t < 40 by omega) (by omega), sI_nn (by omega), c_fail h12, mb2_s, mb2_s]
    obtain ⟨A1, k1, k2, k3⟩ := c_keys (fu := fu) (C := C) (L := Lc) (by omega) sB kC
    have jz : JZ A1 M := ⟨by rw [k3 _ _ (by omega)]; exact hZ.1, hZ.2.1, hZ.2.2⟩
    have lj := lk_join (fu := fu) (L := Lc) (L2 := Lm) (tu := tu) hfu c3 (ky := fun s => kyf (ky 0) (ky 1) (ky 2) (ow (ct (sg 2 s))) (sg 1 s) K 0) (fun s hs => rfl) own C 0 fu fu A1 M (by omega) (by omega) (by omega) k2 sM kM c2 (je_0 jz) (fun s hs hh => absurd hh (by omega))
    rcases lj with ⟨no, _⟩ | ⟨t', M', ht', tl', mn', eY, m11, m12, fn, i3⟩
    · exact absurd tl (no t ht)
    · have et : t' = t := by
        have q1 := mn t' ht' tl'
        have q2 := mn' t ht tl
        dsimp only at q1 q2
        omega
      subst et
      obtain ⟨_, _, _, _, _, _, g1, g2, g3⟩ := s4 t' ht
      rw [show DX19_join fu M Lm = some (0, M', Lm) from eY, mb3_s, if_pos (show (0 : Int32) = 0 from rfl), g1]
      refine Or.inl ⟨_, M', rfl, rfl, ⟨8, sg 4 t', by omega, by omega, by omega, by rw [mset_n (by omega), mset_s]; rfl, m11, mset_s, by rw [m12, g2]⟩, fun a y u => by rw [mset_n (by omega), mset_n (by omega)], fn, i3⟩
/-! JOINING: frames at the start -/
theorem nxf_0 {ev : Nat} : nxf ev 0 = ev := by
  unfold nxf
  rw [show 0 - 1 = 0 from rfl, Nat.zero_div]
  omega
abbrev jnA (A A' : mwM) : Prop := ∀ a y, ¬ (70 ≤ a ∧ a ≤ 80) → ¬ (86 ≤ a ∧ a ≤ 94) → ¬ (a = 61 ∧ (y = 11 ∨ y = 13 ∨ y = 14)) → A' a y = A a y
abbrev jnM (M M' : mwM) : Prop := ∀ a y, (a < 941 ∨ 23 ≤ (a - 941) % 53 ∨ 1577 ≤ a) → ¬ (766 ≤ a ∧ a ≤ 768) → ¬ (a = 732 ∧ (y = 67 ∨ y = 11 ∨ y = 12)) → ¬ (779 ≤ a ∧ a ≤ 785) → M' a y = M a y
theorem st_packs {fu n C T X S K R W : Nat} {A M : mwM} {Lc Lm : mwL} {nl : List Nm} {ow ct : Nat → Nat} {sg : Nat → Nat → Nat} {tu : Nat → Bool} {ky rd wt : Nat → Nat → Nat} (hfu : 90000 ≤ fu) (hP : PR A M Lc Lm n C T X S K R W nl ow ct sg tu ky rd wt) (hZ : JZ A M) (hno : ∀ s, s < S → ¬ TLg (sg 0) (fun s => kyf (ky 0) (ky 1) (ky 2) (ow (ct (sg 2 s))) (sg 1 s) K 0) s) : ∃ (A' M' : mwM) (F : Nat) (d : Nat → Nat → Nat), DX6_pack fu (sI C) A Lc = some (A', Lc) ∧ DX19_join fu M Lm = some (1, M', Lm) ∧ FrS A' M' S F d tu ∧ (∀ f, f < F → HdF M' S d tu f) ∧ DyS A' M' F d 0 0 ∧ SoR A' F d 0 ∧ (∀ f, f < F → d 10 f < C) ∧ (∀ f, f < F → ∀ x, x < 6 → A' (86 + x) f = 0) ∧ d 0 = sg 0 ∧ d 1 = sg 1 ∧ d 2 = (fun s => ow (ct (sg 2 s))) ∧ d 4 = sg 2 ∧ d 5 = sg 3 ∧ (∀ q, q < 12 → ∀ y, y ≤ 40 → M' (941 + 53 * q + 8) y = 0) ∧ jnA A A' ∧ jnM M M' := by
  obtain ⟨sB, sM, own⟩ := pr_sg hP
  obtain ⟨⟨c1, c2, c3⟩, pT, pX, pB, ⟨s1, s2, s3, s4⟩, ⟨kC, kM, kk⟩, pR, pW, pN, nB⟩ := id hP
  have hX12 := pX.2.2.1
  obtain ⟨A1, k1, k2, k3⟩ := c_keys (fu := fu) (C := C) (L := Lc) (by omega) sB kC
  have jz : JZ A1 M := ⟨by rw [k3 _ _ (by omega)]; exact hZ.1, hZ.2.1, hZ.2.2⟩
  have lj := lk_join (fu := fu) (L := Lc) (L2 := Lm) (tu := tu) hfu c3 (ky := fun s => kyf (ky 0) (ky 1) (ky 2) (ow (ct (sg 2 s))) (sg 1 s) K 0) (fun s hs => rfl) own C 0 fu fu A1 M (by omega) (by omega) (by omega) k2 sM kM c2 (je_0 jz) (fun s hs hh => absurd hh (by omega))
  generalize hkf : (fun s => kyf (ky 0) (ky 1) (ky 2) (ow (ct (sg 2 s))) (sg 1 s) K 0) = kf at lj hno
  rcases lj with ⟨_, A2, M2, eX, eY, ⟨F, fs, os, ls, ns, fw, ev, lo, fi, j1, j2, j3, j4, j5, j6, j7, j8⟩, fA2, fM2⟩ | ⟨t, _, ht, tl, _⟩
  rotate_left
  · exact absurd tl (hno t ht)
  have F40 : F ≤ 40 := by omega
  have pk : ∀ s, s < S → pkn (ow (ct (sg 2 s))) (kf s) < 2 * C := fun s hs => by
    have := own s hs
    unfold pkn
    split <;> omega
  obtain ⟨A3, p1, p2, p3⟩ := c_findPositions (fu := fu) (F := F) (A := A2) (L := Lc) (ev := ev) (by omega) j1 F40 (fun f hf => by
    obtain ⟨⟨_, a2, _, _, _, _, _, _, _, _, _, _, _, a14, _⟩, _⟩ := j4 f hf
    exact ⟨a2, a14⟩)
  obtain ⟨M3, m1, m2, m3⟩ := m_positions (fu := fu) (F := F) (M := M2) (L := Lm) (ev := ev) (by omega) j2 F40 (fun f hf => by
    obtain ⟨⟨_, _, _, _, _, _, a7, _, _, _, _, _, _, a14, _⟩, _⟩ := j4 f hf
    exact ⟨a7, a14⟩)
  obtain ⟨m, o1, o2⟩ := c_findSoonest (fu := fu) (F := F) (A := A3) (L := Lc) (nx := ev) (by omega) (by rw [p3 _ _ (by omega) (by omega)]; exact j1) F40 (fun f hf => by
    obtain ⟨⟨_, _, _, _, _, _, _, _, _, _, _, _, _, a14, _⟩, ⟨z1, _⟩, _⟩ := j4 f hf
    exact ⟨by rw [p3 _ _ (by omega) (by omega)]; exact z1, by omega⟩)
  generalize hA4 : mset A3 61 14 (sI m) = A4 at o1
  have fA4 : ∀ a y, a ≠ 78 → a ≠ 80 → ¬ (a = 61 ∧ y = 14) → A4 a y = A2 a y := fun a y u1 u2 u3 => by rw [← hA4, mset_n (by omega), p3 a y u1 u2]
  have a14 : A4 61 14 = sI m := by rw [← hA4, mset_s]
  have jA : jnA A A4 := fun a y u1 u2 u3 => by rw [fA4 a y (by omega) (by omega) (by omega), fA2 a y (by omega) (by omega) (by omega) (by omega) (by omega), k3 a y (by omega)]
  have jM : jnM M M3 := fun a y u1 u2 u3 u4 => by rw [m3 a y (by omega), fM2 a y u1 u2 u3 (by omega)]
  -- the table
  have hd : ∃ d : Nat → Nat → Nat, d 0 = sg 0 ∧ d 1 = sg 1 ∧ d 2 = (fun s => ow (ct (sg 2 s))) ∧ d 3 = kf ∧ d 4 = sg 2 ∧ d 5 = sg 3 ∧ d 6 = fs ∧ d 7 = os ∧ d 8 = ls ∧ d 9 = ns ∧ d 10 = fw ∧ d 11 = ev ∧ d 12 = lo ∧ d 13 = fi :=
    ⟨fun i => if i = 0 then sg 0 else if i = 1 then sg 1 else if i = 2 then (fun s => ow (ct (sg 2 s))) else if i = 3 then kf else if i = 4 then sg 2 else if i = 5 then sg 3 else if i = 6 then fs else if i = 7 then os else if i = 8 then ls else if i = 9 then ns else if i = 10 then fw else if i = 11 then ev else if i = 12 then lo else fi, rfl, rfl, rfl, rfl, rfl, rfl, rfl, rfl, rfl, rfl, rfl, rfl, rfl, rfl⟩
  obtain ⟨d, d0, d1, d2, d3, d4, d5, d6, d7, d8, d9, d10, d11, d12, d13⟩ := hd
  have FrT3 : ∀ f, f < F → FrT A4 M3 f (fw f) (ev f) (lo f) (fi f) := fun f hf => by
    obtain ⟨⟨a1, a2, a3, a4, a5, a6, a7, a8, a9, a10, a11, a12, a13, a14, a15, a16, a17⟩, _⟩ := j4 f hf
    have hp := pkn_12 (y := lo f) a11
    exact ⟨by rw [fA4 _ _ (by omega) (by omega) (by omega)]; exact a1, by rw [fA4 _ _ (by omega) (by omega) (by omega)]; exact a2, by rw [fA4 _ _ (by omega) (by omega) (by omega)]; exact a3, by rw [m3 _ _ (by omega)]; exact a4, by rw [m3 _ _ (by omega)]; exact a5, by rw [m3 _ _ (by omega)]; exact a6, by rw [m3 _ _ (by omega)]; exact a7, by rw [m3 _ _ (by omega)]; exact a8, a9, a10, a11, a12, a13, a14, by rw [m3 _ _ (by omega)]; exact a15, by rw [m3 _ _ (by omega)]; exact a16, by rw [m3 _ _ (by omega)]; exact a17⟩
  have SgT3 : ∀ s, s < S → SgT A4 M3 s (fs s) (os s) (ls s) (ns s) (sg 0 s) (tu s) (ow (ct (sg 2 s))) (kf s) (fi (fs s)) := fun s hs => by
    obtain ⟨_, _, _, _, ⟨b1, b2, b3, b4, b5, b6, b7, b8, b9, b10, b11, b12, b13, b14, b15, b16⟩⟩ := j5 s hs (pk s hs)
    exact ⟨by rw [fA4 _ _ (by omega) (by omega) (by omega)]; exact b1, by rw [fA4 _ _ (by omega) (by omega) (by omega)]; exact b2, by rw [m3 _ _ (by omega)]; exact b3, by rw [m3 _ _ (by omega)]; exact b4, by rw [m3 _ _ (by omega)]; exact b5, b6, b7, b8, b9, by rw [m3 _ _ (by omega)]; exact b10, by rw [m3 _ _ (by omega)]; exact b11, by rw [m3 _ _ (by omega)]; exact b12, by rw [m3 _ _ (by omega)]; exact b13, by rw [m3 _ _ (by omega)]; exact b14, by rw [m3 _ _ (by omega)]; exact b15, by rw [m3 _ _ (by omega)]; exact b16⟩
  refine ⟨A4, M3, F, d, ?_, ?_, ⟨?_, ?_, s3, ?_, ?_, F40, fun f hf => ?_, fun s hs => ?_, fun s t hs ht hst => ?_, fun f g hf hg => ?_⟩, fun f hf => ⟨fun s hs hfs q hq => ?_, fun y hy _ => ?_⟩, fun f hf => ?_, ⟨m, a14, ?_⟩, fun f hf => ?_, fun f hf x hx => ?_, d0, d1, d2, d4, d5, fun q hq y hy => ?_, jA, jM⟩
  · rw [k1, show (0 : Int32) = sI 0 from rfl, eX, p1, mb2_s, o1, mb2_s]
  · show fX19_join_h2 fu fu (0, M, Lm) = _
    rw [show fX19_join_h2 fu fu (0, M, Lm) = fX19_join_h45 fu fu (0, M2, Lm) from eY, m1]
  · rw [jA _ _ (by omega) (by omega) (by omega)]
    exact s1
  · rw [jM _ _ (by omega) (by omega) (by omega) (by omega)]
    exact s2
  · rw [fA4 _ _ (by omega) (by omega) (by omega)]
    exact j1
  · rw [m3 _ _ (by omega)]
    exact j2
  · rw [d10, d11, d12, d13]
    exact ⟨FrT3 f hf, by rw [← hA4, mset_n (by omega)]; exact (p2 f hf).1, by rw [← hA4, mset_n (by omega)]; exact (p2 f hf).2, m2 f hf⟩
  · obtain ⟨q1, q2, q3, q4, _⟩ := j5 s hs (pk s hs)
    obtain ⟨⟨b1, b2, b3, b4⟩, ⟨b5, b6, b7, b8⟩, ⟨g1, g2, g3⟩, ⟨g4, g5, g6⟩, ⟨g7, g8⟩, _⟩ := s4 s hs
    rw [d0, d1, d2, d3, d4, d5, d6, d7, d8, d9, d10, d11, d12, d13]
    exact ⟨q1, q2, q3, q4, SgT3 s hs, by rw [jA _ _ (by omega) (by omega) (by omega)]; exact b1, by rw [jM _ _ (by omega) (by omega) (by omega) (by omega)]; exact b2, b3, b4, by rw [jA _ _ (by omega) (by omega) (by omega)]; exact g7, by rw [jM _ _ (by omega) (by omega) (by omega) (by omega)]; exact g8, by rw [jA _ _ (by omega) (by omega) (by omega)]; exact g1, by rw [jM _ _ (by omega) (by omega) (by omega) (by omega)]; exact g2, by omega, by rw [jA _ _ (by omega) (by omega) (by omega)]; exact g4, by rw [jM _ _ (by omega) (by omega) (by omega) (by omega)]; exact g5, g6, by rw [jA _ _ (by omega) (by omega) (by omega)]; exact b5, by rw [jM _ _ (by omega) (by omega) (by omega) (by omega)]; exact b6, b7, b8⟩
  · rw [d0, d6, d7]
    exact j6 s t hs ht (pk s hs) (pk t ht) hst
  · rw [d10, d12, d13]
    exact j7 f g hf hg
  · -- what a frame holds at first
    rw [d0, d7] at *
    rw [d6] at hfs
    obtain ⟨q1, q2, q3, q4, ⟨b1, b2, b3, b4, b5, b6, b7, b8, b9, _⟩⟩ := j5 s hs (pk s hs)
    obtain ⟨_, ⟨z1, z2, z3, z4, z5⟩, _⟩ := j4 f hf
    have hq2 := pqf_lt (t := tu s) hq
    refine ⟨0, ?_, Nat.pow_pos (by omega)⟩
    show M3 (941 + 53 * pkn (d 10 f) (d 12 f) + 15) ((d 13 f - 1) * cpk (d 12 f) + os s + pqf (tu s) (ocs (sg 0) s) q) = 0
    rw [d10, d12, d13, m3 _ _ (by omega), Nat.add_assoc ((fi f - 1) * cpk (lo f)) (os s)]
    apply z5
    rw [← hfs, q4]
    have : ocs (sg 0) s = (sg 0 s + 7) / 8 := rfl
    omega
  · show M3 (941 + 53 * pkn (d 10 f) (d 12 f) + 15) ((d 13 f - 1) * cpk (d 12 f) + y) = 0
    obtain ⟨_, ⟨z1, z2, z3, z4, z5⟩, _⟩ := j4 f hf
    rw [d12] at hy
    rw [d10, d12, d13, m3 _ _ (by omega)]
    exact z5 y hy
  · obtain ⟨_, ⟨z1, z2, z3, z4, z5⟩, _⟩ := j4 f hf
    rw [d11, if_neg (by omega), nxf_0, fA4 _ _ (by omega) (by omega) (by omega), fA4 _ _ (by omega) (by omega) (by omega), m3 _ _ (by omega)]
    exact ⟨⟨0, z2, z4, by omega⟩, z1⟩
  · rw [d11]
    have : (fun f => nxf (ev f) 0) = ev := by
      funext f
      exact nxf_0
    rw [this]
    exact o2
  · obtain ⟨_, _, _, s, hs, hp, hf2⟩ := j4 f hf
    obtain ⟨_, q2, _⟩ := j5 s hs (pk s hs)
    rw [d10, ← hf2, q2]
    exact own s hs
  · obtain ⟨_, ⟨z1, z2, z3, z4, z5⟩, _⟩ := j4 f hf
    rw [fA4 _ _ (by omega) (by omega) (by omega)]
    exact z3 x hx
  · rw [m3 _ _ (by omega)]
    exact j8 q hq y hy
/-! JOINING: the reference's numbers at the start -/
/-- cleared one by one -/
abbrev b4M (M : mwM) : Prop := (∀ k, k < 7 → M 924 k = 0) ∧ (∀ k, k < 5 → M 939 k = 0) ∧ ∀ c, c < 6 → M 923 c = 0 ∧ M 934 c = 1 ∧ M 935 c = 0 ∧ M 936 c = 0 ∧ M 937 c = 0 ∧ M 938 c = 0
theorem m_b256 {fu : Nat} {M : mwM} {L : mwL} (hf : 300 ≤ fu) : wq (fX19_build_h256 fu fu (0, M, L)) (fun z => z.1 = 1 ∧ z.2.2 = L ∧ (∀ c, c < 6 → z.2.1 923 c = 0 ∧ z.2.1 934 c = 1 ∧ z.2.1 935 c = 0 ∧ z.2.1 936 c = 0 ∧ z.2.1 937 c = 0 ∧ z.2.1 938 c = 0) ∧ ∀ a y, a ≠ 923 → ¬ (934 ≤ a ∧ a ≤ 938) → z.2.1 a y = M a y) := by
  refine wq_for (body := fun r s => fX19_build_i256 fu r s.1 s.2.1 s.2.2) (fun i (a : mwM × mwL) => (sI i, a.1, a.2)) (fun i a => a.2 = L ∧ (∀ c, c < i → a.1 923 c = 0 ∧ a.1 934 c = 1 ∧ a.1 935 c = 0 ∧ a.1 936 c = 0 ∧ a.1 937 c = 0 ∧ a.1 938 c = 0) ∧ ∀ b y, b ≠ 923 → ¬ (934 ≤ b ∧ b ≤ 938) → a.1 b y = M b y) 6 ?_ ?_ 6 0 (M, L) fu (by omega) (by omega) ⟨rfl, fun c h => by omega, fun _ _ _ _ => rfl⟩
  · rintro i ⟨a, l⟩ r hi ⟨p1, p2, p3⟩ ih
    dsimp only at p1 p2 p3
    show wq (fX19_build_i256 fu r (sI i) a l) _
    unfold fX19_build_i256
    rw [if_neg (show ¬ (6 : Int32) ≤ sI i by rw [show (6 : Int32) = sI 6 from rfl, sI_le (by omega) (by omega)]; omega), nar_f]
    simp (disch := omega) only [mck_s, sI_nn, mlet_e, sI_1]
    refine ih (mset (mset (mset (mset (mset (mset a 923 i 0) 934 i 1) 935 i 0) 936 i 0) 937 i 0) 938 i 0, l) ⟨p1, fun c hc => ?_, fun b y u1 u2 => ?_⟩
    · dsimp only
      by_cases e : c = i
      · subst e
        simp (disch := omega) only [mset_n, mset_s]
        exact ⟨trivial, trivial, trivial, trivial, trivial, trivial⟩
      · have := p2 c (by omega)
        simp (disch := omega) only [mset_n]
        exact this
    · dsimp only
      simp (disch := omega) only [mset_n]
      exact p3 b y u1 u2
  · rintro ⟨a, l⟩ r ⟨p1, p2, p3⟩
    dsimp only at p1 p2 p3
    show wq (fX19_build_i256 fu r (sI 6) a l) _
    unfold fX19_build_i256
    rw [if_pos (show (6 : Int32) ≤ sI 6 by decide)]
    exact wq_some ⟨rfl, p1, p2, p3⟩
theorem m_b234 {fu : Nat} {M : mwM} {L : mwL} (hf : 300 ≤ fu) : wq (fX19_build_h234 fu fu (0, M, L)) (fun z => z.1 = 1 ∧ (∀ k, k < 240 → z.2.2 786 k = 0) ∧ (∀ a y, a ≠ 786 → z.2.2 a y = L a y) ∧ (∀ c, c < 6 → z.2.1 923 c = 0 ∧ z.2.1 934 c = 1 ∧ z.2.1 935 c = 0 ∧ z.2.1 936 c = 0 ∧ z.2.1 937 c = 0 ∧ z.2.1 938 c = 0) ∧ ∀ a y, a ≠ 923 → ¬ (934 ≤ a ∧ a ≤ 938) → z.2.1 a y = M a y) := by
  refine wq_for (body := fun r s => fX19_build_i234 fu r s.1 s.2.1 s.2.2) (fun i (a : mwM × mwL) => (sI i, a.1, a.2)) (fun i a => a.1 = M ∧ (∀ c, c < i → a.2 786 c = 0) ∧ ∀ b y, b ≠ 786 → a.2 b y = L b y) 240 ?_ ?_ 240 0 (M, L) fu (by omega) (by omega) ⟨rfl, fun c h => by omega, fun _ _ _ => rfl⟩
  · rintro i ⟨a, l⟩ r hi ⟨p1, p2, p3⟩ ih
    dsimp only at p1 p2 p3
    show wq (fX19_build_i234 fu r (sI i) a l) _
    unfold fX19_build_i234
    rw [if_neg (show ¬ (240 : Int32) ≤ sI i by rw [show (240 : Int32) = sI 240 from rfl, sI_le (by omega) (by omega)]; omega), mck_s hi (by omega), sI_nn (by omega), mlet_e, mlet_e, sI_1]
    refine ih (a, mset l 786 i 0) ⟨p1, fun c hc => ?_, fun b y u1 => ?_⟩
    · dsimp only
      by_cases e : c = i
      · rw [e, mset_s]
      · rw [mset_n (by omega)]
        exact p2 c (by omega)
    · dsimp only
      rw [mset_n (by omega)]
      exact p3 b y u1
  · rintro ⟨a, l⟩ r ⟨p1, p2, p3⟩
    dsimp only at p1 p2 p3
    subst p1
    show wq (fX19_build_i234 fu r (sI 240) a l) _
    unfold fX19_build_i234
    rw [if_pos (show (240 : Int32) ≤ sI 240 by decide)]
    obtain ⟨⟨r1, M1, L1⟩, e, z1, z2, z3, z4⟩ := m_b256 (fu := fu) (M := a) (L := l) hf
    dsimp only at z1 z2 z3 z4
    subst z2
    exact ⟨_, e, z1, p2, p3, z3, z4⟩
theorem m_b214 {fu : Nat} {M : mwM} {L : mwL} (hf : 300 ≤ fu) : wq (fX19_build_h214 fu fu (0, M, L)) (fun z => z.1 = 1 ∧ (∀ k, k < 5 → z.2.1 939 k = 0) ∧ (∀ k, k < 240 → z.2.2 786 k = 0) ∧ (∀ a y, a ≠ 786 → z.2.2 a y = L a y) ∧ (∀ c, c < 6 → z.2.1 923 c = 0 ∧ z.2.1 934 c = 1 ∧ z.2.1 935 c = 0 ∧ z.2.1 936 c = 0 ∧ z.2.1 937 c = 0 ∧ z.2.1 938 c = 0) ∧ ∀ a y, a ≠ 923 → ¬ (934 ≤ a ∧ a ≤ 939) → z.2.1 a y = M a y) := by
  refine wq_for (body := fun r s => fX19_build_i214 fu r s.1 s.2.1 s.2.2) (fun i (a : mwM × mwL) => (sI i, a.1, a.2)) (fun i a => a.2 = L ∧ (∀ c, c < i → a.1 939 c = 0) ∧ ∀ b y, b ≠ 939 → a.1 b y = M b y) 5 ?_ ?_ 5 0 (M, L) fu (by omega) (by omega) ⟨rfl, fun c h => by omega, fun _ _ _ => rfl⟩
  · rintro i ⟨a, l⟩ r hi ⟨p1, p2, p3⟩ ih
    dsimp only at p1 p2 p3
    show wq (fX19_build_i214 fu r (sI i) a l) _
    unfold fX19_build_i214
    rw [if_neg (show ¬ (5 : Int32) ≤ sI i by rw [show (5 : Int32) = sI 5 from rfl, sI_le (by omega) (by omega)]; omega), mck_s hi (by omega), sI_nn (by omega), mlet_e, mlet_e, sI_1]
    refine ih (mset a 939 i 0, l) ⟨p1, fun c hc => ?_, fun b y u1 => ?_⟩
    · dsimp only
      by_cases e : c = i
      · rw [e, mset_s]
      · rw [mset_n (by omega)]
        exact p2 c (by omega)
    · dsimp only
      rw [mset_n (by omega)]
      exact p3 b y u1
  · rintro ⟨a, l⟩ r ⟨p1, p2, p3⟩
    dsimp only at p1 p2 p3
    subst p1
    show wq (fX19_build_i214 fu r (sI 5) a l) _
    unfold fX19_build_i214
    rw [if_pos (show (5 : Int32) ≤ sI 5 by decide)]
    obtain ⟨⟨r1, M1, L1⟩, e, z1, z2, z3, z4, z5⟩ := m_b234 (fu := fu) (M := a) (L := l) hf
    dsimp only at z1 z2 z3 z4 z5
    exact ⟨_, e, z1, fun k hk => by dsimp only; rw [z5 _ _ (by omega) (by omega)]; exact p2 k hk, z2, z3, z4, fun b y u1 u2 => by dsimp only; rw [z5 b y u1 (by omega), p3 b y (by omega)]⟩
theorem m_b193 {fu : Nat} {M : mwM} {L : mwL} (hf : 300 ≤ fu) : wq (fX19_build_h193 fu fu (0, M, L)) (fun z => z.1 = 1 ∧ b4M z.2.1 ∧ (∀ k, k < 240 → z.2.2 786 k = 0) ∧ (∀ a y, a ≠ 786 → z.2.2 a y = L a y) ∧ ∀ a y, a ≠ 923 → a ≠ 924 → ¬ (934 ≤ a ∧ a ≤ 939) → z.2.1 a y = M a y) := by
  refine wq_for (body := fun r s => fX19_build_i193 fu r s.1 s.2.1 s.2.2) (fun i (a : mwM × mwL) => (sI i, a.1, a.2)) (fun i a => a.2 = L ∧ (∀ c, c < i → a.1 924 c = 0) ∧ ∀ b y, b ≠ 924 → a.1 b y = M b y) 7 ?_ ?_ 7 0 (M, L) fu (by omega) (by omega) ⟨rfl, fun c h => by omega, fun _ _ _ => rfl⟩
  · rintro i ⟨a, l⟩ r hi ⟨p1, p2, p3⟩ ih
    dsimp only at p1 p2 p3
    show wq (fX19_build_i193 fu r (sI i) a l) _
    unfold fX19_build_i193
    rw [if_neg (show ¬ (7 : Int32) ≤ sI i by rw [show (7 : Int32) = sI 7 from rfl, sI_le (by omega) (by omega)]; omega), mck_s hi (by omega), sI_nn (by omega), mlet_e, mlet_e, sI_1]
    refine ih (mset a 924 i 0, l) ⟨p1, fun c hc => ?_, fun b y u1 => ?_⟩
    · dsimp only
      by_cases e : c = i
      · rw [e, mset_s]
      · rw [mset_n (by omega)]
        exact p2 c (by omega)
    · dsimp only
      rw [mset_n (by omega)]
      exact p3 b y u1
  · rintro ⟨a, l⟩ r ⟨p1, p2, p3⟩
    dsimp only at p1 p2 p3
    subst p1
    show wq (fX19_build_i193 fu r (sI 7) a l) _
    unfold fX19_build_i193
    rw [if_pos (show (7 : Int32) ≤ sI 7 by decide)]
    obtain ⟨⟨r1, M1, L1⟩, e, z1, z2, z3, z4, z5, z6⟩ := m_b214 (fu := fu) (M := a) (L := l) hf
    dsimp only at z1 z2 z3 z4 z5 z6
    exact ⟨_, e, z1, ⟨fun k hk => by dsimp only; rw [z6 _ _ (by omega) (by omega)]; exact p2 k hk, z2, z5⟩, z3, z4, fun b y u1 u2 u3 => by dsimp only; rw [z6 b y u1 (by omega), p3 b y u2]⟩
theorem m_btail {fu T : Nat} {M : mwM} {L : mwL} {r : (Int32 × mwM × mwL) → Option (Int32 × mwM × mwL)} (hf : 300 ≤ fu) (hT : T ≤ 12) (h24 : M 732 24 = sI T) : wq (fX19_build_i36 fu r (sI T) M L) (fun z => z.1 = 1 ∧ b4M z.2.1 ∧ (∀ k, k < 240 → z.2.2 786 k = 0) ∧ (∀ a y, a ≠ 786 → z.2.2 a y = L a y) ∧ (z.2.1 732 83 = 0 ∧ z.2.1 732 88 = 0 ∧ z.2.1 732 91 = 0 ∧ z.2.1 732 94 = 0 ∧ z.2.1 732 95 = 0 ∧ z.2.1 732 96 = 0 ∧ z.2.1 732 97 = -1 ∧ z.2.1 732 98 = 0 ∧ z.2.1 732 108 = 0) ∧ ∀ a y, a ≠ 923 → a ≠ 924 → ¬ (934 ≤ a ∧ a ≤ 939) → ¬ (a = 732 ∧ 83 ≤ y) → z.2.1 a y = M a y) := by
  unfold fX19_build_i36
  rw [h24, if_pos (show sI T ≤ sI T by rw [sI_le (by omega) (by omega)]; omega)]
  simp only [mlet_e]
  obtain ⟨⟨r1, M1, L1⟩, e, z1, z2, z3, z4, z5⟩ := m_b193 (fu := fu) (M := mset (mset (mset (mset (mset (mset (mset (mset (mset M 732 83 0) 732 88 0) 732 91 0) 732 94 0) 732 95 0) 732 96 0) 732 97 (-1)) 732 98 0) 732 108 0) (L := L) hf
  dsimp only at z1 z2 z3 z4 z5
  refine ⟨_, e, z1, z2, z3, z4, ?_, fun a y u1 u2 u3 u4 => ?_⟩
  · dsimp only
    rw [z5 732 83 (by omega) (by omega) (by omega), z5 732 88 (by omega) (by omega) (by omega), z5 732 91 (by omega) (by omega) (by omega), z5 732 94 (by omega) (by omega) (by omega), z5 732 95 (by omega) (by omega) (by omega), z5 732 96 (by omega) (by omega) (by omega), z5 732 97 (by omega) (by omega) (by omega), z5 732 98 (by omega) (by omega) (by omega), z5 732 108 (by omega) (by omega) (by omega)]
    simp (disch := omega) only [mset_n, mset_s]
    exact ⟨trivial, trivial, trivial, trivial, trivial, trivial, trivial, trivial, trivial⟩
  · dsimp only
    rw [z5 a y u1 u2 u3]
    simp (disch := omega) only [mset_n]
/-! JOINING: the class learns its keys and finds its charts' domains -/
theorem c_domL {fu X : Nat} {A : mwM} {L : mwL} (hf : 500 ≤ fu) (hX : X ≤ 12) (h14 : A 3 14 = sI X) (hc : ∀ x, x < X → ∃ c, Cv c ∧ TrC A (293 + 36 * x) (c 0 0) (c 1) (c 2) (c 3) ∧ EdC A (293 + 36 * x) (c 0 1) (c 4) (c 5) (c 6) (c 7)) : wq (fX1_join_h86 fu fu (0, A, L)) (fun z => z.2 = L ∧ (∀ x, x < X → ∀ c, Cv c → TrC A (293 + 36 * x) (c 0 0) (c 1) (c 2) (c 3) → EdC A (293 + 36 * x) (c 0 1) (c 4) (c 5) (c 6) (c 7) → DoC (293 + 36 * x) z.1 c) ∧ ∀ b y, ¬ (293 ≤ b ∧ (b - 293) % 36 = 25) → z.1 b y = A b y) := by
  refine wq_for (body := fun r s => fX1_join_i86 fu r s.1 s.2.1 s.2.2) (fun i (a : mwM × mwL) => (sI i, a.1, a.2)) (fun i a => a.2 = L ∧ (∀ x, x < i → ∀ c, Cv c → TrC A (293 + 36 * x) (c 0 0) (c 1) (c 2) (c 3) → EdC A (293 + 36 * x) (c 0 1) (c 4) (c 5) (c 6) (c 7) → DoC (293 + 36 * x) a.1 c) ∧ ∀ b y, ¬ (293 ≤ b ∧ (b - 293) % 36 = 25) → a.1 b y = A b y) X ?_ ?_ X 0 (A, L) fu (by omega) (by omega) ⟨rfl, fun x h => by omega, fun _ _ _ => rfl⟩
  · rintro i ⟨a, l⟩ r hi ⟨p1, p2, p3⟩ ih
    dsimp only at p1 p2 p3
    show wq (fX1_join_i86 fu r (sI i) a l) _
    unfold fX1_join_i86
    rw [p3 3 14 (by omega), h14, if_neg (show ¬ sI X ≤ sI i by rw [sI_le (by omega) (by omega)]; omega), mck_s (show i < 12 by omega) (by omega), sI_nn (by omega)]
    have tr : ∀ c : Nat → Nat → Nat, TrC A (293 + 36 * i) (c 0 0) (c 1) (c 2) (c 3) → TrC a (293 + 36 * i) (c 0 0) (c 1) (c 2) (c 3) := fun c h => ⟨by rw [p3 _ _ (by omega)]; exact h.1, fun s hs => by
      rw [p3 _ _ (by omega), p3 _ _ (by omega), p3 _ _ (by omega)]
      exact h.2 s hs⟩
    have ed : ∀ c : Nat → Nat → Nat, EdC A (293 + 36 * i) (c 0 1) (c 4) (c 5) (c 6) (c 7) → EdC a (293 + 36 * i) (c 0 1) (c 4) (c 5) (c 6) (c 7) := fun c h => ⟨by rw [p3 _ _ (by omega)]; exact h.1, fun e e1 e2 => by
      rw [p3 _ _ (by omega), p3 _ _ (by omega), p3 _ _ (by omega), p3 _ _ (by omega)]
      exact h.2 e e1 e2⟩
    obtain ⟨c, c1, c2, c3⟩ := hc i hi
    obtain ⟨A1, L1, e1, e2, e3, e4⟩ := wq_ex (c_findDomains (fu := fu) (k := 293 + 36 * i) (L := l) (by omega) c1 (tr c c2) (ed c c3))
    dsimp only at e2 e3 e4
    rw [e1, mb2_s, mlet_e, sI_1]
    refine ih (A1, L1) ⟨by rw [e2]; exact p1, fun x hx k k1 k2 k3 => ?_, fun b y u => ?_⟩
    · dsimp only
      by_cases ex : x = i
      · subst ex
        obtain ⟨A2, L2, f1, f2, f3, f4⟩ := wq_ex (c_findDomains (fu := fu) (k := 293 + 36 * x) (L := l) (by omega) k1 (tr k k2) (ed k k3))
        dsimp only at f3
        rw [e1] at f1
        have := congrArg Prod.fst (Option.some.inj f1)
        dsimp only at this
        rw [this]
        exact f3
      · intro e he1 he2 j hj1 hj2 hs
        rw [e4 _ _ (by omega)]
        exact p2 x (by omega) k k1 k2 k3 e he1 he2 j hj1 hj2 hs
    · dsimp only
      rw [e4 b y (by omega), p3 b y u]
  · rintro ⟨a, l⟩ r ⟨p1, p2, p3⟩
    dsimp only at p1 p2 p3
    show wq (fX1_join_i86 fu r (sI X) a l) _
    unfold fX1_join_i86
    rw [p3 3 14 (by omega), h14, if_pos (show sI X ≤ sI X by rw [sI_le (by omega) (by omega)]; omega)]
    exact wq_some ⟨p1, p2, p3⟩
theorem c_learnL {fu F : Nat} {A M : mwM} {L : mwL} {S lo : Nat → Nat} {Q : mwM × mwL → Prop} (hf : 500 ≤ fu) (hF : F ≤ 40) (h11 : A 61 11 = sI F) (hlo : ∀ f, f < F → A 76 f = sI (lo f) ∧ lo f ≤ 16) (hR : RCd A M S) (h16 : KnC A S 16)
    (hQ : ∀ A', RCd A' M S → KnC A' S 16 → (∀ f, f < F → lo f ≠ 0 → KnC A' S (lo f)) → (∀ a y, ¬ (101 ≤ a ∧ a ≤ 138) → A' a y = A a y) → wq (fX1_join_h86 fu fu (0, A', L)) Q) : wq (fX1_join_h35 fu fu (0, A, L)) Q := by
  refine wq_for (body := fun r s => fX1_join_i35 fu r s.1 s.2.1 s.2.2) (fun i (a : mwM × mwL) => (sI i, a.1, a.2)) (fun i a => a.2 = L ∧ RCd a.1 M S ∧ KnC a.1 S 16 ∧ (∀ f, f < i → lo f ≠ 0 → KnC a.1 S (lo f)) ∧ ∀ b y, ¬ (101 ≤ b ∧ b ≤ 138) → a.1 b y = A b y) F ?_ ?_ F 0 (A, L) fu (by omega) (by omega) ⟨rfl, hR, h16, fun f h => by omega, fun _ _ _ => rfl⟩
  · rintro i ⟨a, l⟩ r hi ⟨p1, p2, p3, p4, p5⟩ ih
    dsimp only at p1 p2 p3 p4 p5
    obtain ⟨l1, l2⟩ := hlo i hi
    show wq (fX1_join_i35 fu r (sI i) a l) _
    unfold fX1_join_i35 fX1_join_b78
    rw [p5 61 11 (by omega), h11, if_neg (show ¬ sI F ≤ sI i by rw [sI_le (by omega) (by omega)]; omega), mck_s (show i < 40 by omega) (by omega), mck_s (show i < 40 by omega) (by omega), sI_nn (by omega), p5 76 i (by omega), l1]
    by_cases z : lo i = 0
    · rw [if_pos (show sI (lo i) = 0 by rw [z]; rfl), mlet_e, sI_1]
      refine ih (a, l) ⟨p1, p2, p3, fun f hf h0 => ?_, p5⟩
      exact p4 f (by
        have : f ≠ i := fun e => h0 (by rw [e]; exact z)
        omega) h0
    · rw [if_neg (show ¬ sI (lo i) = 0 by rw [show (0 : Int32) = sI 0 from rfl, sI_eq (by omega) (by omega)]; exact z)]
      obtain ⟨A1, L1, e1, e2, e3, e4, e5, e6⟩ := wq_ex (c_learn3 (fu := fu) (key := lo i) (L := l) (by omega) (by omega) p2)
      dsimp only at e2 e3 e4 e5 e6
      rw [e1, mb2_s, mlet_e, sI_1]
      refine ih (A1, L1) ⟨by rw [e2]; exact p1, e3, e5 16 (by omega) p3, fun f hf h0 => ?_, fun b y u => ?_⟩
      · by_cases ef : f = i
        · rw [ef]
          exact e4
        · exact e5 _ (by have := (hlo f (by omega)).2; omega) (p4 f (by omega) h0)
      · dsimp only
        rw [e6 b y u, p5 b y u]
  · rintro ⟨a, l⟩ r ⟨p1, p2, p3, p4, p5⟩
    dsimp only at p1 p2 p3 p4 p5
    subst p1
    show wq (fX1_join_i35 fu r (sI F) a l) _
    unfold fX1_join_i35
    rw [p5 61 11 (by omega), h11, if_pos (show sI F ≤ sI F by rw [sI_le (by omega) (by omega)]; omega)]
    exact hQ a p2 p3 p4 p5
