/-! READING: the line of an edge -/
theorem nf_gd {fu : Nat} {x : Int32} {Kc : Int32 → mwM → mwL → Option (mwM × mwL)} {A : mwM} {L : mwL} (h : ¬ A 1 12 = 0) : gdC fu x Kc A L = Kc 0 A L := by
  unfold gdC
  rw [nf_opt h, mb3_s, if_pos (show (0 : Int32) = 0 from rfl), nf_end h, mb2_s]
noncomputable def edC (fu : Nat) (v1 v2 v3 v4 : Int32) (g : Int32) (A : mwM) (L : mwL) : Option (mwM × mwL) :=
  (if (A 1 12) = 0 then mck v1 12 (mb3 (DX2_addEdge fu ((293 + 36 * v1.toNatClampNeg)) v2 v3 v4 g A L) (fun r7 M5 L6 => mb2 (DX8_heed fu r7 M5 L6) (fun M8 L9 => fX8_readEdge_b116 fu M8 L9))) else fX8_readEdge_b116 fu A L)
noncomputable def edM (fu : Nat) (v1 v2 v3 v4 : Int32) (g : Int32) (M : mwM) (L : mwL) : Option (Int32 × mwM × mwL) :=
  mck v1 12 (mb3 (DX13_edge fu ((964 + 53 * v1.toNatClampNeg)) v2 v3 v4 g M L) (fun r27 M25 L26 => mb3 (DX19_fits fu r27 M25 L26) (fun r30 M28 L29 => (if r30 = 0 then some (0, M28, L29) else mck v1 12 (mlet (mset M28 750 (v1.toNatClampNeg) r27) (fun M33 => some (1, M33, L29))))))) 
theorem ed_c {fu : Nat} {A : mwM} {L : mwL} : DX8_readEdge fu A L = mb3 (DX8_toldName fu 0 2 A L) (fun r12 M10 L11 => mb3 (DX8_statesOf fu r12 M10 L11) (fun r15 M13 L14 => mb3 (DX8_toldName fu r15 4 M13 L14) (fun r18 M16 L17 => mb3 (DX8_statesOf fu r12 M16 L17) (fun r21 M19 L20 => mb3 (DX8_toldName fu r21 4 M19 L20) (fun r24 M22 L23 => mb3 (DX8_eventOrTime fu r18 M22 L23) (fun r27 M25 L26 => gdC fu r12 (edC fu r12 r18 r24 r27) M25 L26)))))) := rfl
theorem ed_m {fu : Nat} {v1 v2 v3 v4 : Int32} {M : mwM} {L : mwL} : fX19_addEdge_b75 fu v1 v2 v3 v4 M L = gdM fu v1 (edM fu v1 v2 v3 v4) M L := rfl
theorem st_edge {fu n le a b C T X S K R W : Nat} {A M : mwM} {Lc Lm : mwL} {tx : Nat → Nat} {nl : List Nm} {ow ct : Nat → Nat} {sg : Nat → Nat → Nat} {tu : Nat → Bool} {ky rd wt : Nat → Nat → Nat} (hfu : 6100 ≤ fu) (h : Ld A M n tx le a) (hP : PR A M Lc Lm n C T X S K R W nl ow ct sg tu ky rd wt) (h7 : A 1 7 = sI b) (h8 : M 732 8 = sI b) (hbn : b ≤ 6000) (hl : 12 * nl.length ≤ a) (hk : 15 * K ≤ a) : RlQ A M Lc Lm n le (DX8_readEdge fu A Lc) (DX19_addEdge fu M Lm) := by
  obtain ⟨⟨c1, c2, c3⟩, pT, pX, pB, pS, pK, pR, pW, pN, nB⟩ := id hP
  have ha := h.2.2.2.2.2.2.2.1
  have hX12 := pX.2.2.1
  obtain ⟨A1, M1, f1, f2, hr⟩ := st_told (fu := fu) (Lc := Lc) (Lm := Lm) (k := 2) hfu h pN (by omega)
  have fa1 : fWn A A1 := fun x y u => f1 x y (by omega)
  have fm1 : fG T S M M1 := fun x y u1 u2 u3 => f2 x y (by omega)
  have bad : ∀ {v1 v2 v3 v4 g : Int32} {Ax : mwM}, ¬ Ax 1 12 = 0 → edC fu v1 v2 v3 v4 g Ax Lc = some (Ax, Lc) := fun hh => by
    unfold edC fX8_readEdge_b116
    rw [if_neg hh]
  rw [ed_c]
  unfold DX19_addEdge fX19_addEdge_b19 fX19_addEdge_b33
  rcases hr with ⟨q, q1, q2, q3, hk1, e1, e2, hL1, hH1⟩ | ⟨e1, e2, hX⟩
  rotate_left
  · rw [show DX8_toldName fu 0 2 A Lc = _ from e1, mb3_s, show DX19_named fu 3 M Lm = _ from e2, mb3_s, if_neg (show ¬ (0 : Int32) ≤ -1 by decide), if_neg (show ¬ (0 : Int32) ≤ -1 by decide), if_neg (show ¬ (0 : Int32) ≤ -1 by decide)]
    unfold DX8_statesOf
    simp only [nf_told (Fx_n hX), nf_event (Fx_n hX), nf_gd (Fx_n hX), mb3_s, bad (Fx_n hX)]
    exact rl_bad hP (by omega) (by omega) fa1 fm1 hX rfl rfl
  have hx : q.2.2.2.2 < X := by
    rcases (nB.2 q q1).2 q2 with g | g | g | g <;> omega
  rw [show DX8_toldName fu 0 2 A Lc = _ from e1, mb3_s, show DX19_named fu 3 M Lm = _ from e2, mb3_s, if_pos (ge_s (by omega)), st_of, mb3_s]
  generalize hx' : q.2.2.2.2 = x at *
  have N1 := NaR_f pN (A' := A1) (M' := M1) (fun x y u => fa1 x y (by omega)) (fun x y u => fm1 x y (by omega) (by omega) (by omega))
  obtain ⟨A2, M2, f3, f4, hr⟩ := st_stt (fu := fu) (Lc := Lc) (Lm := Lm) hfu hL1 N1 hx
  have fa2 : fWn A A2 := fun x y u => by rw [f3 x y (by omega), fa1 x y u]
  have fm2 : fG T S M M2 := fun x y u1 u2 u3 => by rw [f4 x y (by omega), fm1 x y u1 u2 u3]
  rcases hr with ⟨i, hi, hk2, e3, e4, hL2, hH2⟩ | ⟨e3, e4, hX⟩
  rotate_left
  · rw [e3, mb3_s, e4, mb3_s, if_neg (show ¬ (0 : Int32) ≤ -1 by decide), if_neg (show ¬ (0 : Int32) ≤ -1 by decide)]
    unfold DX8_statesOf
    simp only [nf_told (Fx_n hX), nf_event (Fx_n hX), nf_gd (Fx_n hX), mb3_s, bad (Fx_n hX)]
    exact rl_bad hP (by omega) (by omega) fa2 fm2 hX rfl rfl
  have hi200 := (N1.2.2.2.2 x hx).1.2.1
  rw [e3, mb3_s, e4, mb3_s, if_pos (ge_s (by omega)), st_of, mb3_s]
  have N2 := NaR_f pN (A' := A2) (M' := M2) (fun x y u => fa2 x y (by omega)) (fun x y u => fm2 x y (by omega) (by omega) (by omega))
  obtain ⟨A3, M3, f5, f6, hr⟩ := st_stt (fu := fu) (Lc := Lc) (Lm := Lm) hfu hL2 N2 hx
  have fa3 : fWn A A3 := fun x y u => by rw [f5 x y (by omega), fa2 x y u]
  have fm3 : fG T S M M3 := fun x y u1 u2 u3 => by rw [f6 x y (by omega), fm2 x y u1 u2 u3]
  rcases hr with ⟨i2, hi2, hk3, e5, e6, hL3, hH3⟩ | ⟨e5, e6, hX⟩
  rotate_left
  · rw [e5, mb3_s, e6, mb3_s, if_neg (show ¬ (0 : Int32) ≤ -1 by decide)]
    simp only [nf_event (Fx_n hX), nf_gd (Fx_n hX), mb3_s, bad (Fx_n hX)]
    exact rl_bad hP (by omega) (by omega) fa3 fm3 hX rfl rfl
  rw [e5, mb3_s, e6, mb3_s, if_pos (ge_s (by omega)), mlet_e, show (1000 : Int32) + sI (i + 1) = sI (1000 + (i + 1)) from sI_lad]
  obtain ⟨A4, M4, f7, f8, hr⟩ := st_event (fu := fu) (f := i + 1) (Lc := Lc) (Lm := Lm) (fun ev M L => fX19_addEdge_b75 fu (sI x) (sI (i + 1)) (sI (i2 + 1)) ev M L) hfu hL3 (by omega)
  have fa4 : fWn A A4 := fun x y u => by rw [f7 x y (by omega), fa3 x y u]
  have fm4 : fG T S M M4 := fun x y u1 u2 u3 => by rw [f8 x y (by omega), fm3 x y u1 u2 u3]
  rcases hr with ⟨ev, hev, hk4, e7, e8, hL4⟩ | ⟨e7, e8, hX⟩
  rotate_left
  · rw [e7, mb3_s, e8, nf_gd (Fx_n hX), bad (Fx_n hX)]
    exact rl_bad hP (by omega) (by omega) fa4 fm4 hX rfl rfl
  rw [e7, mb3_s, e8, ed_m]
  have N4 := NaR_f pN (A' := A4) (M' := M4) (fun x y u => fa4 x y (by omega)) (fun x y u => fm4 x y (by omega) (by omega) (by omega))
  obtain ⟨A5, M5, f9, f10, hr⟩ := st_guard (fu := fu) (Lc := Lc) (Lm := Lm) (edC fu (sI x) (sI (i + 1)) (sI (i2 + 1)) (sI ev)) (edM fu (sI x) (sI (i + 1)) (sI (i2 + 1)) (sI ev)) hfu hL4 N4 hx
  have fa5 : fWn A A5 := fun x y u => by rw [f9 x y (by omega), fa4 x y u]
  have fm5 : fG T S M M5 := fun x y u1 u2 u3 => by rw [f10 x y (by omega), fm4 x y u1 u2 u3]
  rcases hr with ⟨g, a', hg1, hg2, e9, e10, ha', hL5⟩ | ⟨g, e9, e10, hX⟩
  rotate_left
  · rw [e9, e10, bad (Fx_n hX)]
    exact rl_bad hP (by omega) (by omega) fa5 fm5 hX rfl rfl
  have l9 := hL5.2.2.2.2.2.2.2.2
  have hP5 := PR_f hP (A' := A5) (M' := M5) (fun a y u => fa5 a y (by omega)) (fun a y u1 u2 u3 => fm5 a y (by omega) u2 u3)
  have g7 : A5 1 7 = sI b := by rw [fa5 _ _ (by omega)]; exact h7
  have g8 : M5 732 8 = sI b := by rw [fm5 _ _ (by omega) (by omega) (by omega)]; exact h8
  rw [e9, e10]
  unfold edC edM fX8_readEdge_b116
  rw [if_pos l9, mck_s (show x < 12 by omega) (by omega), mck_s (show x < 12 by omega) (by omega), sI_nn (by omega)]
  obtain ⟨v1, v2, v3, v4, v5, c, va, D, xx, v6, v7, v8, v9, v10, v11, v12, v13⟩ := (hP5.2.2.1.2.2.2.1 x hx).2.2.2
  obtain ⟨rc, A6, Lc6, i1, i3⟩ := wq_e3 (c_addEdge (fu := fu) (k := 293 + 36 * x) (f := i + 1) (t := i2 + 1) (e := ev) (g := g) v6 v7 (by omega))
  obtain ⟨rm, M6, Lm6, j1, j2, j3, j4⟩ := wq_e3 (m_edge (fu := fu) (q := 964 + 53 * x) (f := i + 1) (t := i2 + 1) (e := ev) (g := g) v6 v8 v9 (by omega) (by omega) (by omega) hg1 hg2)
  dsimp only at i3 j2 j3 j4
  subst j2
  rw [i1, mb3_s, j1, mb3_s]
  have badz : ∀ r : Int32, ¬ (0 : Int32) ≤ r → rc = r → A6 = A5 → Lc6 = Lc → rm = r → ReM (964 + 53 * x) M6 Lm6 c b00 va D xx → ClM (964 + 53 * x) M6 Lm6 c → RlQ A M Lc Lm6 n le (mb2 (DX8_heed fu rc A6 Lc6) (fun M8 L9 => some (M8, L9))) (mb3 (DX19_fits fu rm M6 Lm6) (fun r30 M28 L29 => (if r30 = 0 then some (0, M28, L29) else mck (sI x) 12 (mlet (mset M28 750 x rm) (fun M33 => some (1, M33, L29)))))) := fun r hr y1 y2 y3 y4 y5 y6 => by
    subst y1 y2 y3 y4
    have l8 : M6 732 8 = sI b := by rw [j3 _ _ (by omega)]; exact g8
    rw [c_heed l9 g7 hr, mb2_s, m_fits l8 hr, mb3_s, if_pos (show (0 : Int32) = 0 from rfl)]
    exact rl_heed (x := x) hP5 (by omega) (by omega) fa5 fm5 hx hbn (fun p y u => j3 p y (by omega)) (fun p u => rfl) ⟨v1, v2, by rw [j3 _ _ (by omega)]; exact v3, by rw [j3 _ _ (by omega)]; exact v4, v5, c, va, D, xx, v6, v7, y5, y6, v10, v11, by rw [j3 _ _ (by omega)]; exact v12, v13⟩ rfl rfl
  by_cases cc : c 2 (i + 1) = 2 ∨ c 2 (i + 1) = 3
  · rw [if_pos cc] at i3 j4
    injection i3 with x1 x2
    injection x2 with x2 x3
    exact badz (-2) (by decide) x1 x2 x3 j4.1 j4.2.1 j4.2.2
  · rw [if_neg cc] at i3 j4
    by_cases c4 : 400 ≤ c 0 1
    · rw [if_pos c4] at i3 j4
      injection i3 with x1 x2
      injection x2 with x2 x3
      exact badz (-4) (by decide) x1 x2 x3 j4.1 j4.2.1 j4.2.2
    · rw [if_neg c4] at i3 j4
      obtain ⟨rfl, rfl, i4, i5⟩ := i3
      obtain ⟨rfl, j5, j6⟩ := j4
      rw [c_heed0 (by omega), mb2_s, m_fits0 (by omega), mb3_s, if_neg (show ¬ (1 : Int32) = 0 by decide), mck_s (show x < 12 by omega) (by omega), mlet_e]
      refine rl_chart (x := x) hP5 (by omega) (by omega) fa5 fm5 hx l9 (fun p y u => i5 p y (by omega) (by omega)) (i5 _ _ (by omega) (by omega)) (fun p y u1 u2 => by rw [mset_n (by omega), j3 p y (by omega)]) (fun _ _ => rfl) (fun _ _ => rfl) ⟨by rw [i5 _ _ (by omega) (by omega)]; exact v1, by rw [i5 _ _ (by omega) (by omega)]; exact v2, by rw [mset_n (by omega), j3 _ _ (by omega)]; exact v3, by rw [mset_n (by omega), j3 _ _ (by omega)]; exact v4, v5, ced c (i + 1) (i2 + 1) ev g, va, D, xx, Cv_ed v6 (by omega) (by omega) cc c4 (by omega) hg1 hg2, i4, ReM_f j5 (fun p y u1 u2 _ => mset_n (by omega)) (fun _ _ _ => rfl), ClM_f j6 (fun p y u1 u2 _ => mset_n (by omega)) (fun _ _ _ => rfl), v10, v11, ?_, fun s hs => v13 s hs⟩ rfl rfl
      rw [mset_s]
      rfl
