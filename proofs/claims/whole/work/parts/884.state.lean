/-! READING: the line of a state -/
noncomputable def stG (fu : Nat) (v1 : Int32) (M1 : mwM) (L2 : mwL) : Option (Int32 × mwM × mwL) :=
  mlet (M1 732 9) (fun x5 => mlet ((M1 732 10) - (M1 732 9)) (fun x6 => mb3 (DX19_takes fu 7368564 M1 L2) (fun r9 M7 L8 => (if r9 = 0 then mb3 (DX19_state fu v1 M7 L8) (fun r13 M11 L12 => fX19_addState_b73 fu v1 x5 x6 r13 M11 L12) else fX19_addState_b73 fu v1 x5 x6 0 M7 L8))))
theorem stG_m {fu : Nat} {M : mwM} {L : mwL} : DX19_addState fu M L = mb3 (DX19_named fu 3 M L) (fun r47 M45 L46 => (if r47 < 0 then some (0, M45, L46) else mb3 (DX19_must fu M45 L46) (fun r51 M49 L50 => (if r51 = 0 then some (0, M49, L50) else mb3 (DX19_findState fu r47 M49 L50) (fun r55 M53 L54 => (if r55 ≤ 0 then mb3 (DX19_newIn fu 0 M53 L54) (fun r3 M1 L2 => if r3 = 0 then some (0, M1, L2) else stG fu r47 M1 L2) else mb3 (DX19_newIn fu 1 M53 L54) (fun r3 M1 L2 => if r3 = 0 then some (0, M1, L2) else stG fu r47 M1 L2))))))) := rfl
noncomputable def stK (fu : Nat) (v1 v2 v3 s0 : Int32) (r21 : Int32) (M19 : mwM) (L20 : mwL) : Option (Int32 × mwM × mwL) :=
  mb3 (DX19_end fu M19 L20) (fun r25 M23 L24 => (if r25 = 0 then some (0, M23, L24) else mck v1 12 (mb3 (DX13_state fu ((964 + 53 * v1.toNatClampNeg)) s0 r21 M23 L24) (fun r30 M28 L29 => mb3 (DX19_fits fu r30 M28 L29) (fun r33 M31 L32 => (if r33 = 0 then some (0, M31, L32) else mck v1 12 (mlet (mset M31 754 (v1.toNatClampNeg) r30) (fun M36 => mck ((201 * v1) + r30) 2412 (mlet (mset M36 755 (((201 * v1) + r30).toNatClampNeg) v2) (fun M38 => mck ((201 * v1) + r30) 2412 (mlet (mset M38 756 (((201 * v1) + r30).toNatClampNeg) v3) (fun M40 => some (1, M40, L32)))))))))))))
theorem stK_m {fu : Nat} {v1 v2 v3 s0 : Int32} {M : mwM} {L : mwL} : fX19_addState_b73 fu v1 v2 v3 s0 M L = if s0 < 0 then some (0, M, L) else mb3 (DX19_must fu M L) (fun r17 M15 L16 => if r17 = 0 then some (0, M15, L16) else mb3 (DX19_kind fu M15 L16) (fun r21 M19 L20 => if 0 ≤ r21 then stK fu v1 v2 v3 s0 r21 M19 L20 else mb3 (DX19_fail fu 1 (M19 732 9) M19 L20) (fun r43 M41 L42 => mzz r43 (some (r43, M41, L42))))) := rfl
theorem cst_zz {c : Nat → Nat → Nat} {p t : Nat} (h : ∀ s, s ≤ c 0 0 → c 13 s = 0 ∧ c 14 s = 0) : ∀ s, s ≤ cst c p t 0 0 → cst c p t 13 s = 0 ∧ cst c p t 14 s = 0 := by
  intro s hs
  have hs' : s ≤ c 0 0 + 1 := hs
  show (if (13 = 12 ∨ 13 = 13 ∨ 13 = 14) ∧ s = c 0 0 + 1 then 0 else c 13 s) = 0 ∧ (if (14 = 12 ∨ 14 = 13 ∨ 14 = 14) ∧ s = c 0 0 + 1 then 0 else c 14 s) = 0
  by_cases e : s = c 0 0 + 1
  · rw [if_pos ⟨by omega, e⟩, if_pos ⟨by omega, e⟩]
    exact ⟨rfl, rfl⟩
  · rw [if_neg (fun z => e z.2), if_neg (fun z => e z.2)]
    exact h s (by omega)
theorem NmB_c {C T X S : Nat} {nl : List Nm} {q : Nm} (h : NmB C T X S nl) (q0 : q.1 ≠ 0) (q1 : q.1 ≤ 2 * X) : NmB C T X S (nl ++ [q]) := by
  obtain ⟨h1, h2⟩ := h
  refine ⟨by rw [ns_app, if_neg q0]; exact h1, fun z hz => ?_⟩
  rcases List.mem_append.mp hz with hz | hz
  · exact h2 z hz
  · rw [List.mem_singleton.mp hz]
    exact ⟨q1, fun z0 => absurd z0 q0⟩
theorem st_state {fu n le a b C T X S K R W : Nat} {A M : mwM} {Lc Lm : mwL} {tx : Nat → Nat} {nl : List Nm} {ow ct : Nat → Nat} {sg : Nat → Nat → Nat} {tu : Nat → Bool} {ky rd wt : Nat → Nat → Nat} (hfu : 6100 ≤ fu) (h : Ld A M n tx le a) (hP : PR A M Lc Lm n C T X S K R W nl ow ct sg tu ky rd wt) (h7 : A 1 7 = sI b) (h8 : M 732 8 = sI b) (hbn : b ≤ 6000) (hb : a < le → tx a = 32) (hl : 12 * nl.length + 5 ≤ a) (hk : 15 * K ≤ a) : RlQ A M Lc Lm n le (DX8_readState fu A Lc) (DX19_addState fu M Lm) := by
  obtain ⟨⟨c1, c2, c3⟩, pT, pX, pB, pS, pK, pR, pW, pN, nB⟩ := id hP
  have ha := h.2.2.2.2.2.2.2.1
  have hle := h.2.2.2.2.1
  have hn := h.1.2.1
  have hX12 := pX.2.2.1
  obtain ⟨A1, M1, f1, f2, hr⟩ := st_told (fu := fu) (Lc := Lc) (Lm := Lm) (k := 2) hfu h pN (by omega)
  have fa1 : fWn A A1 := fun x y u => f1 x y (by omega)
  have fm1 : fG T S M M1 := fun x y u1 u2 u3 => f2 x y (by omega)
  rw [stG_m]
  unfold DX8_readState fX8_readState_b74
  rcases hr with ⟨q, q1, q2, q3, hk1, e1, e2, hL1, hH1⟩ | ⟨e1, e2, hX⟩
  rotate_left
  · rw [show DX8_toldName fu 0 2 A Lc = _ from e1, mb3_s, show DX19_named fu 3 M Lm = _ from e2, mb3_s, if_pos (show (-1 : Int32) < 0 by decide)]
    unfold DX8_statesOf
    simp only [nf_new (Fx_n hX), nf_parent (Fx_n hX), nf_one (Fx_n hX), nf_end (Fx_n hX), mb3_s, mb2_s, if_neg (Fx_n hX)]
    exact rl_bad hP (by omega) (by omega) fa1 fm1 hX rfl rfl
  have hx : q.2.2.2.2 < X := by
    rcases (nB.2 q q1).2 q2 with g | g | g | g <;> omega
  obtain ⟨k1, k2, k3⟩ := nw_2 ha hb hk1
  rw [show DX8_toldName fu 0 2 A Lc = _ from e1, mb3_s, show DX19_named fu 3 M Lm = _ from e2, mb3_s, if_neg (ns_s (by omega)), st_of, mb3_s]
  generalize hx' : q.2.2.2.2 = x at *
  have N1 := NaR_f pN (A' := A1) (M' := M1) (fun x y u => fa1 x y (by omega)) (fun x y u => fm1 x y (by omega) (by omega) (by omega))
  obtain ⟨A2, M2, f3, f4, hr⟩ := st_newStt (fu := fu) (Lc := Lc) (Lm := Lm) (stG fu (sI x)) hfu hL1 N1 hx
  have fa2 : fWn A A2 := fun x y u => by rw [f3 x y (by omega), fa1 x y u]
  have fm2 : fG T S M M2 := fun x y u1 u2 u3 => by rw [f4 x y (by omega), fm1 x y u1 u2 u3]
  rcases hr with ⟨hk2, e3, e4, hL2, hH2, w10, w11⟩ | ⟨e3, e4, hX⟩
  rotate_left
  · rw [e3, mb2_s, e4]
    simp only [nf_parent (Fx_n hX), nf_one (Fx_n hX), nf_end (Fx_n hX), mb3_s, mb2_s, if_neg (Fx_n hX)]
    exact rl_bad hP (by omega) (by omega) fa2 fm2 hX rfl rfl
  obtain ⟨k4, k5, k6⟩ := nw_2 k2 k3 hk2
  obtain ⟨y8, y9, n9, n10, hlt2⟩ := id hH2
  rw [e3, mb2_s, e4]
  unfold stG
  rw [mlet_e, mlet_e, n9, n10, sI_sub (by omega)]
  have N2 := NaR_f pN (A' := A2) (M' := M2) (fun x y u => fa2 x y (by omega)) (fun x y u => fm2 x y (by omega) (by omega) (by omega))
  generalize hw : nwB tx le (nwE tx le a) = w at *
  generalize he : nwE tx le (nwE tx le a) = e at *
  obtain ⟨A3, M3, f5, f6, hr⟩ := st_parent (fu := fu) (Lc := Lc) (Lm := Lm) (fun r13 M11 L12 => fX19_addState_b73 fu (sI x) (sI w) (sI (e - w)) r13 M11 L12) hfu hL2 N2 hx
  have fa3 : fWn A A3 := fun x y u => by rw [f5 x y (by omega), fa2 x y u]
  have fm3 : fG T S M M3 := fun x y u1 u2 u3 => by rw [f6 x y (by omega), fm2 x y u1 u2 u3]
  rcases hr with ⟨v, hv, hk3, e5, e6, hL3⟩ | ⟨e5, e6, hX⟩
  rotate_left
  · rw [e5, mb3_s, e6, stK_m, if_pos (show (-1 : Int32) < 0 by decide)]
    simp only [nf_one (Fx_n hX), nf_end (Fx_n hX), mb3_s, mb2_s, if_neg (Fx_n hX)]
    exact rl_bad hP (by omega) (by omega) fa3 fm3 hX rfl rfl
  have hi200 := (N1.2.2.2.2 x hx).1.2.1
  obtain ⟨k7, k8, k9⟩ := nw_2 k5 k6 hk3
  rw [e5, mb3_s, e6, stK_m, if_neg (ns_s (by omega))]
  obtain ⟨A4, M4, f7, f8, hr⟩ := st_kind (fu := fu) (Lc := Lc) (Lm := Lm) (stK fu (sI x) (sI w) (sI (e - w)) (sI v)) hfu hL3
  have fa4 : fWn A A4 := fun x y u => by rw [f7 x y (by omega), fa3 x y u]
  have fm4 : fG T S M M4 := fun x y u1 u2 u3 => by rw [f8 x y (by omega), fm3 x y u1 u2 u3]
  rcases hr with ⟨j, hj, hk4, e7, e8, hL4⟩ | ⟨e7, e8, hX⟩
  rotate_left
  · rw [e7, mb3_s, e8]
    simp only [nf_end (Fx_n hX), mb3_s, mb2_s, if_neg (Fx_n hX)]
    exact rl_bad hP (by omega) (by omega) fa4 fm4 hX rfl rfl
  obtain ⟨k10, k11, k12⟩ := nw_2 k8 k9 hk4
  rw [e7, mb3_s, e8]
  unfold stK
  obtain ⟨A5, M5, f9, f10, hr⟩ := st_eol (fu := fu) (Lc := Lc) (Lm := Lm) hfu hL4
  have fa5 : fWn A A5 := fun x y u => by rw [f9 x y (by omega), fa4 x y u]
  have fm5 : fG T S M M5 := fun x y u1 u2 u3 => by rw [f10 x y (by omega), fm4 x y u1 u2 u3]
  rcases hr with ⟨hk5, e9, e10, hL5⟩ | ⟨e9, e10, hX⟩
  rotate_left
  · rw [e9, mb2_s, if_neg (Fx_n hX), e10, mb3_s, if_pos (show (0 : Int32) = 0 from rfl)]
    exact rl_bad hP (by omega) (by omega) fa5 fm5 hX rfl rfl
  have l9 := hL5.2.2.2.2.2.2.2.2
  have hP5 := PR_f hP (A' := A5) (M' := M5) (fun a y u => fa5 a y (by omega)) (fun a y u1 u2 u3 => fm5 a y (by omega) u2 u3)
  have g7 : A5 1 7 = sI b := by rw [fa5 _ _ (by omega)]; exact h7
  have g8 : M5 732 8 = sI b := by rw [fm5 _ _ (by omega) (by omega) (by omega)]; exact h8
  have g10 : A5 1 10 = sI w := by rw [f9 _ _ (by omega), f7 _ _ (by omega), f5 _ _ (by omega)]; exact w10
  have g11 : A5 1 11 = sI (e - w) := by rw [f9 _ _ (by omega), f7 _ _ (by omega), f5 _ _ (by omega)]; exact w11
  rw [e9, mb2_s, if_pos l9, e10, mb3_s, if_neg (show ¬ (1 : Int32) = 0 by decide), mck_s (show x < 12 by omega) (by omega), mck_s (show x < 12 by omega) (by omega), sI_nn (by omega)]
  obtain ⟨v1, v2, v3, v4, v5, c, va, D, xx, v6, v7, v8, v9, v10, v11, v12, v13⟩ := (hP5.2.2.1.2.2.2.1 x hx).2.2.2
  obtain ⟨rc, A6, Lc6, i1, i3⟩ := wq_e3 (c_addState (fu := fu) (k := 293 + 36 * x) (p := v) (t := j) (by omega) v6 v7 (by omega) (by omega))
  obtain ⟨rm, M6, Lm6, j1, j2, j3, j4⟩ := wq_e3 (m_state (fu := fu) (q := 964 + 53 * x) (p := v) (t := j) v6 v8 v9 (by omega) (by omega))
  dsimp only at i3 j2 j3 j4
  subst j2
  rw [i1, mb3_s, j1, mb3_s]
  have badz : ∀ r : Int32, ¬ (0 : Int32) ≤ r → rc = r → A6 = A5 → Lc6 = Lc → rm = r → ReM (964 + 53 * x) M6 Lm6 c b00 va D xx → ClM (964 + 53 * x) M6 Lm6 c → RlQ A M Lc Lm6 n le (mb2 (DX8_heed fu rc A6 Lc6) (fun M22 L23 => mb3 (DX8_statesOf fu (sI x) M22 L23) (fun r26 M24 L25 => mb2 (DX8_keepName fu r26 4 rc M24 L25) (fun M27 L28 => some (M27, L28))))) (mb3 (DX19_fits fu rm M6 Lm6) (fun r33 M31 L32 => (if r33 = 0 then some (0, M31, L32) else mck (sI x) 12 (mlet (mset M31 754 x rm) (fun M36 => mck ((201 * sI x) + rm) 2412 (mlet (mset M36 755 (((201 * sI x) + rm).toNatClampNeg) (sI w)) (fun M38 => mck ((201 * sI x) + rm) 2412 (mlet (mset M38 756 (((201 * sI x) + rm).toNatClampNeg) (sI (e - w))) (fun M40 => some (1, M40, L32)))))))))) := fun r hr y1 y2 y3 y4 y5 y6 => by
    subst y1 y2 y3 y4
    have l8 : M6 732 8 = sI b := by rw [j3 _ _ (by omega)]; exact g8
    have hh : ¬ (flA A6 (sI (hdK rm)) (sI b)) 1 12 = 0 := by
      show ¬ mset (mset A6 1 12 (sI (hdK rm))) 1 13 (sI b) 1 12 = 0
      rw [mset_n (by omega), mset_s, show (0 : Int32) = sI 0 from rfl]
      unfold hdK
      by_cases c : rm = -4
      · rw [if_pos c]
        decide
      · rw [if_neg c]
        decide
    rw [c_heed l9 g7 hr, mb2_s, st_of, mb3_s, nf_keep hh, mb2_s, m_fits l8 hr, mb3_s, if_pos (show (0 : Int32) = 0 from rfl)]
    exact rl_heed (x := x) hP5 (by omega) (by omega) fa5 fm5 hx hbn (fun p y u => j3 p y (by omega)) (fun p u => rfl) ⟨v1, v2, by rw [j3 _ _ (by omega)]; exact v3, by rw [j3 _ _ (by omega)]; exact v4, v5, c, va, D, xx, v6, v7, y5, y6, v10, v11, by rw [j3 _ _ (by omega)]; exact v12, v13⟩ rfl rfl
  by_cases cc : 2 ≤ c 2 v ∨ 40 ≤ c 3 v
  · rw [if_pos cc] at i3 j4
    injection i3 with x1 x2
    injection x2 with x2 x3
    exact badz (-2) (by decide) x1 x2 x3 j4.1 j4.2.1 j4.2.2
  rw [if_neg cc] at i3 j4
  by_cases c4 : 200 ≤ c 0 0
  · rw [if_pos c4] at i3 j4
    injection i3 with x1 x2
    injection x2 with x2 x3
    exact badz (-4) (by decide) x1 x2 x3 j4.1 j4.2.1 j4.2.2
  rw [if_neg c4] at i3 j4
  clear badz
  obtain ⟨rfl, rfl, i4, i5⟩ := i3
  obtain ⟨rfl, j5, j6⟩ := j4
  have N5 := hP5.2.2.2.2.2.2.2.2.1
  obtain ⟨nC, nO, nM, nX, nS⟩ := id N5
  obtain ⟨A7, r1, r2, r3⟩ := c_keep (fu := fu) (σ := 1 + 2 * x) (k := 4) (v := c 0 0 + 1) (L := Lc6) (A := A6) (NmC_f nC (fun p y u => i5 p y (by omega) (by omega))) (by rw [i5 _ _ (by omega) (by omega)]; exact l9) (by rw [i5 _ _ (by omega) (by omega)]; exact g10) (by rw [i5 _ _ (by omega) (by omega)]; exact g11) (by omega)
  have e201 : (201 : Int32) * sI x + sI (c 0 0 + 1) = sI (201 * x + (c 0 0 + 1)) := by rw [show (201 : Int32) * sI x = sI (201 * x) from sI_lml, sI_add]
  rw [c_heed0 (by omega), mb2_s, st_of, mb3_s, show DX8_keepName fu (sI (1 + 2 * x)) 4 (sI (c 0 0 + 1)) A6 Lc6 = _ from r1, mb2_s, m_fits0 (by omega), mb3_s, if_neg (show ¬ (1 : Int32) = 0 by decide), mck_s (show x < 12 by omega) (by omega), mlet_e, e201, mck_s (show 201 * x + (c 0 0 + 1) < 2412 by omega) (by omega), mlet_e, mck_s (show 201 * x + (c 0 0 + 1) < 2412 by omega) (by omega), mlet_e, sI_nn (by omega)]
  generalize hM7 : mset (mset (mset M6 754 x (sI (c 0 0 + 1))) 755 (201 * x + (c 0 0 + 1)) (sI w)) 756 (201 * x + (c 0 0 + 1)) (sI (e - w)) = M7
  have fm7 : ∀ p y, ¬ (p = 754 ∧ y = x) → ¬ ((p = 755 ∨ p = 756) ∧ y = 201 * x + (c 0 0 + 1)) → M7 p y = M6 p y := fun p y u1 u2 => by rw [← hM7, mset_n (by omega), mset_n (by omega), mset_n (by omega)]
  have s54 : M7 754 x = sI (c 0 0 + 1) := by rw [← hM7, mset_n (by omega), mset_n (by omega), mset_s]
  have s55 : M7 755 (201 * x + (c 0 0 + 1)) = sI w := by rw [← hM7, mset_n (by omega), mset_s]
  have s56 : M7 756 (201 * x + (c 0 0 + 1)) = sI (e - w) := by rw [← hM7, mset_s]
  have hA : ∀ p y, ¬ (293 + 36 * x ≤ p ∧ p ≤ 293 + 36 * x + 35) → ¬ (p = 1 ∧ y = 3) → ¬ (726 ≤ p ∧ p ≤ 730) → A7 p y = A5 p y := fun p y u1 u2 u3 => by rw [r3 p y (by omega) u3, i5 p y (by omega) (by omega)]
  have hM : ∀ p y, ¬ (964 + 53 * x ≤ p ∧ p ≤ 964 + 53 * x + 29) → ¬ (754 ≤ p ∧ p ≤ 756) → M7 p y = M5 p y := fun p y u1 u2 => by rw [fm7 p y (by omega) (by omega), j3 p y (by omega)]
  have len : (nsL (1 + 2 * x) (nl ++ [(1 + 2 * x, w, e - w, 4, c 0 0 + 1)])).length = c 0 0 + 1 := by
    rw [ns_app, if_pos rfl, List.length_append, v10]
    rfl
  have len2 : nsL (2 + 2 * x) (nl ++ [(1 + 2 * x, w, e - w, 4, c 0 0 + 1)]) = nsL (2 + 2 * x) nl := by
    rw [ns_app, if_neg (show ¬ 1 + 2 * x = 2 + 2 * x by omega)]
  have oth : ∀ σ, σ ≠ 1 + 2 * x → nsL σ (nl ++ [(1 + 2 * x, w, e - w, 4, c 0 0 + 1)]) = nsL σ nl := fun σ hσ => by rw [ns_app, if_neg (show ¬ 1 + 2 * x = σ by omega)]
  have N7 : NaR A7 M7 n X (nl ++ [(1 + 2 * x, w, e - w, 4, c 0 0 + 1)]) := by
    refine ⟨r2, NmO_a nO ⟨by show 1 + 2 * x < 100; omega, by show w + (e - w) ≤ n; omega, by show 1 ≤ e - w; omega, by show 4 < 10; omega, by show c 0 0 + 1 < 1000; omega⟩, ?_, nX, fun z hz => ?_⟩
    · rw [oth 0 (by omega)]
      obtain ⟨p1, p2, p3⟩ := nM
      refine ⟨by rw [hM _ _ (by omega) (by omega)]; exact p1, p2, fun t ht => ?_⟩
      rw [hM _ _ (by omega) (by omega), hM _ _ (by omega) (by omega), hM _ _ (by omega) (by omega), hM _ _ (by omega) (by omega)]
      exact p3 t ht
    · obtain ⟨⟨p1, p2, p3⟩, ⟨d1, d2, d3⟩⟩ := nS z hz
      rw [oth (2 + 2 * z) (by omega)]
      refine ⟨?_, ⟨by rw [hM _ _ (by omega) (by omega)]; exact d1, d2, fun t ht => by rw [hM _ _ (by omega) (by omega), hM _ _ (by omega) (by omega)]; exact d3 t ht⟩⟩
      by_cases cz : z = x
      · subst cz
        refine ⟨by rw [len]; exact s54, by rw [len]; omega, fun t ht => ?_⟩
        have ht' : t < c 0 0 + 1 := by rw [← len]; exact ht
        have hs : nsL (1 + 2 * z) (nl ++ [(1 + 2 * z, w, e - w, 4, c 0 0 + 1)]) = nsL (1 + 2 * z) nl ++ [(1 + 2 * z, w, e - w, 4, c 0 0 + 1)] := by rw [ns_app, if_pos rfl]
        by_cases ct : t = c 0 0
        · have e0 : (nsL (1 + 2 * z) (nl ++ [(1 + 2 * z, w, e - w, 4, c 0 0 + 1)]))[t]'ht = (1 + 2 * z, w, e - w, 4, c 0 0 + 1) := by
            simp only [hs]
            rw [List.getElem_append_right (by omega)]
            exact List.getElem_singleton _
          rw [e0, ct]
          exact ⟨by rw [show 201 * z + c 0 0 + 1 = 201 * z + (c 0 0 + 1) by omega]; exact s55, by rw [show 201 * z + c 0 0 + 1 = 201 * z + (c 0 0 + 1) by omega]; exact s56, rfl, rfl⟩
        · have ht2 : t < (nsL (1 + 2 * z) nl).length := by omega
          have e0 : (nsL (1 + 2 * z) (nl ++ [(1 + 2 * z, w, e - w, 4, c 0 0 + 1)]))[t]'ht = (nsL (1 + 2 * z) nl)[t] := by
            simp only [hs]
            exact List.getElem_append_left ht2
          rw [e0, fm7 _ _ (by omega) (by omega), fm7 _ _ (by omega) (by omega), j3 _ _ (by omega), j3 _ _ (by omega)]
          exact p3 t ht2
      · rw [oth (1 + 2 * z) (by omega)]
        refine ⟨by rw [fm7 _ _ (by omega) (by omega), j3 _ _ (by omega)]; exact p1, p2, fun t ht => ?_⟩
        have : 201 * z + t + 1 ≠ 201 * x + (c 0 0 + 1) := by omega
        rw [fm7 _ _ (by omega) (by omega), fm7 _ _ (by omega) (by omega), j3 _ _ (by omega), j3 _ _ (by omega)]
        exact p3 t ht
  refine ⟨A7, M7, Lc6, Lm6, true, rfl, rfl, ⟨fun p y u => ?_, fun p y u => ?_, ?_, ?_⟩, ?_, C, T, X, S, K, R, W, nl ++ [(1 + 2 * x, w, e - w, 4, c 0 0 + 1)], ow, ct, sg, tu, ky, rd, wt, PR_ch hP5 hx (fun p y u1 u2 u3 => hA p y u1 (by omega) u3) (by rw [r3 _ _ (by omega) (by omega), i5 _ _ (by omega) (by omega)]) (fun p y u1 u2 u3 u4 => hM p y (by omega) (by omega)) (fun _ _ => rfl) (fun _ _ => rfl) N7 (NmB_c nB (by show 1 + 2 * x ≠ 0; omega) (by show 1 + 2 * x ≤ 2 * X; omega)) ?_ (fun z hz => ⟨oth _ (by omega), oth _ (by omega)⟩), ?_, by omega⟩
  · rw [hA p y (by omega) (by omega) (by omega), fa5 p y (by omega)]
  · rw [hM p y (by omega) (by omega), fm5 p y (by omega) (by omega) (by omega)]
  · exact fun _ _ => rfl
  · exact fun _ _ _ => rfl
  · rw [if_pos rfl, hA _ _ (by omega) (by omega) (by omega)]
    exact l9
  · rw [len, len2]
    refine ⟨by rw [r3 _ _ (by omega) (by omega), i5 _ _ (by omega) (by omega)]; exact v1, by rw [r3 _ _ (by omega) (by omega), i5 _ _ (by omega) (by omega)]; exact v2, by rw [hM _ _ (by omega) (by omega)]; exact v3, by rw [hM _ _ (by omega) (by omega)]; exact v4, v5, cst c v j, va, D, xx, Cv_st v6 (by omega) (by omega) (by omega) (by omega) c4, ReC_f i4 (fun p y u1 u2 _ _ _ _ => r3 p y (by omega) (by omega)) rfl, ReM_f j5 (fun p y u1 u2 _ => fm7 p y (by omega) (by omega)) (fun _ _ _ => rfl), ClM_f j6 (fun p y u1 u2 _ => fm7 p y (by omega) (by omega)) (fun _ _ _ => rfl), rfl, v11, by rw [hM _ _ (by omega) (by omega)]; exact v12, cst_zz v13⟩
  · rw [List.length_append]
    show 12 * (nl.length + 1) ≤ le + 1
    omega
