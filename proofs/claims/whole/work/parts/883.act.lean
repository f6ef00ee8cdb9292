/-! READING: the line of an act -/
theorem nf_b36 {fu : Nat} {a1 v2 s0 : Int32} {A : mwM} {L : mwL} (h : ¬ A 1 12 = 0) : fX8_readAct_b36 fu a1 v2 s0 A L = some (A, L) := by
  unfold fX8_readAct_b36 DX8_dataOf fX8_readAct_b101
  simp only [nf_told h, nf_number h, nf_opt h, nf_end h, mb3_s, mb2_s, if_neg h]
theorem st_actT {fu n le a b C T X S K R W x w o : Nat} {A0 M0 A M : mwM} {Lc Lm : mwL} {tx : Nat → Nat} {nl : List Nm} {ow ct : Nat → Nat} {sg : Nat → Nat → Nat} {tu : Nat → Bool} {ky rd wt : Nat → Nat → Nat} (hfu : 6100 ≤ fu) (h : Ld A M n tx le a) (hP0 : PR A0 M0 Lc Lm n C T X S K R W nl ow ct sg tu ky rd wt) (fa0 : fWn A0 A) (fm0 : fG T S M0 M) (h7 : A0 1 7 = sI b) (h8 : M0 732 8 = sI b) (hbn : b ≤ 6000) (hl : 12 * nl.length ≤ a) (hk : 15 * K ≤ a) (hx : x < X) (hw : w ≤ 2) (ho : w ≠ 2 → o ≤ (nsL (1 + 2 * x) nl).length) (ho2 : w = 2 → A0 (293 + 36 * x) 8 = sI o ∧ o ≤ 400) : RlQ A0 M0 Lc Lm n le (fX8_readAct_b36 fu (sI w) (sI x) (sI o) A Lc) (fX19_addAct_b33 fu (sI w) (sI x) (sI o) M Lm) := by
  have hP := PR_f hP0 (A' := A) (M' := M) (fun a y u => fa0 a y (by omega)) (fun a y u1 u2 u3 => fm0 a y (by omega) u2 u3)
  obtain ⟨⟨c1, c2, c3⟩, pT, pX, pB, pS, pK, pR, pW, pN, nB⟩ := id hP
  have ha := h.2.2.2.2.2.2.2.1
  have hX12 := pX.2.2.1
  have hi200 := (pN.2.2.2.2 x hx).1.2.1
  have ho400 : o ≤ 400 := by
    by_cases cw : w = 2
    · exact (ho2 cw).2
    · have := ho cw
      omega
  unfold fX8_readAct_b36 fX19_addAct_b33 fX19_addAct_b47 fX8_readAct_b101 fX19_addAct_b67 fX19_addAct_b129 fX19_addAct_b130
  rw [da_of, mb3_s, if_pos (ge_s (by omega))]
  obtain ⟨A1, M1, f1, f2, hr⟩ := st_dat (fu := fu) (Lc := Lc) (Lm := Lm) hfu h pN hx
  have fa1 : fWn A0 A1 := fun x y u => by rw [f1 x y (by omega), fa0 x y u]
  have fm1 : fG T S M0 M1 := fun x y u1 u2 u3 => by rw [f2 x y (by omega), fm0 x y u1 u2 u3]
  rcases hr with ⟨d, hd, hk1, e1, e2, hL1, _⟩ | ⟨e1, e2, hX⟩
  rotate_left
  · rw [e1, mb3_s, e2, mb3_s, if_pos (show (-1 : Int32) < 0 by decide)]
    simp only [nf_number (Fx_n hX), nf_opt (Fx_n hX), nf_end (Fx_n hX), mb3_s, mb2_s, if_neg (Fx_n hX)]
    exact rl_bad hP0 (by omega) (by omega) fa1 fm1 hX rfl rfl
  have hd32 := (pN.2.2.2.2 x hx).2.2.1
  rw [e1, mb3_s, e2, mb3_s, if_neg (ns_s (by omega))]
  obtain ⟨A2, M2, f3, f4, hr⟩ := st_number (fu := fu) (Lc := Lc) (Lm := Lm) (a1 := -999999999) (a2 := 999999999) hfu hL1
  have fa2 : fWn A0 A2 := fun x y u => by rw [f3 x y (by omega), fa1 x y u]
  have fm2 : fG T S M0 M2 := fun x y u1 u2 u3 => by rw [f4 x y (by omega), fm1 x y u1 u2 u3]
  rcases hr with ⟨hk2, z1, z2, z3, e3, e4, e5, hL2, _⟩ | ⟨e3, e4, hX⟩
  rotate_left
  · rw [e3, mb3_s, e4, mb3_s, if_pos (show (0 : Int32) = 0 from rfl)]
    simp only [nf_opt (Fx_n hX), nf_end (Fx_n hX), mb3_s, mb2_s, if_neg (Fx_n hX)]
    exact rl_bad hP0 (by omega) (by omega) fa2 fm2 hX rfl rfl
  rw [e3, mb3_s, e4, mb3_s, if_neg (show ¬ (1 : Int32) = 0 by decide), mlet_e, e5]
  generalize nuV tx (nwB tx le (nwE tx le a)) (nwE tx le (nwE tx le a) - nwB tx le (nwE tx le a)) = v
  obtain ⟨ad, A3, M3, e6, e7, f5, f6, hh⟩ := st_optEnd (fu := fu) (i := 4) (Lc := Lc) (Lm := Lm) hfu hL2 ok_more ch_more rfl (by decide)
  obtain ⟨A4, M4, f7, f8, hr⟩ := hh M3 (fun _ _ _ => rfl)
  have fa4 : fWn A0 A4 := fun x y u => by rw [f7 x y (by omega), f5 x y (by omega), fa2 x y u]
  have fm4 : fG T S M0 M4 := fun x y u1 u2 u3 => by rw [f8 x y (by omega), f6 x y (by omega), fm2 x y u1 u2 u3]
  rw [e6, mb3_s, e7, mb3_s]
  rcases hr with ⟨e8, e9, a3, ha3, hL4⟩ | ⟨e8, e9, hX⟩
  rotate_left
  · rw [e8, mb2_s, if_neg (Fx_n hX), e9, mb3_s, if_pos (show (0 : Int32) = 0 from rfl)]
    exact rl_bad hP0 (by omega) (by omega) fa4 fm4 hX rfl rfl
  have l9 := hL4.2.2.2.2.2.2.2.2
  have hP4 := PR_f hP0 (A' := A4) (M' := M4) (fun a y u => fa4 a y (by omega)) (fun a y u1 u2 u3 => fm4 a y (by omega) u2 u3)
  have g7 : A4 1 7 = sI b := by rw [fa4 _ _ (by omega)]; exact h7
  have g8 : M4 732 8 = sI b := by rw [fm4 _ _ (by omega) (by omega) (by omega)]; exact h8
  obtain ⟨v1, v2, v3, v4, v5, c, va, D, xx, v6, v7, v8, v9, v10, v11, v12, v13⟩ := (hP4.2.2.1.2.2.2.1 x hx).2.2.2
  have o3 : w = 2 → o = c 0 1 := fun cw => by
    have q1 := (ho2 cw).1
    rw [← fa4 _ _ (by omega)] at q1
    have q2 : A4 (293 + 36 * x) 8 = sI (c 0 1) := v7.2.1.1
    have q3 := v6.2.1.1
    rw [q2, sI_eq (by omega) (by omega)] at q1
    exact q1.symm
  rw [e8, mb2_s, if_pos l9, mck_s (show x < 12 by omega) (by omega), e9, mb3_s, if_neg (show ¬ (1 : Int32) = 0 by decide), mck_s (show x < 12 by omega) (by omega), sI_nn (by omega)]
  have hty : (if bI ad = (0 : Int32) then fX19_addAct_b111 fu (sI w) (sI d) v (964 + 53 * x + 0) (sI o) (sI w) M4 Lm else fX19_addAct_b111 fu (sI w) (sI d) v (964 + 53 * x + 0) (sI o) (sI w + 3) M4 Lm) = fX19_addAct_b111 fu (sI w) (sI d) v (964 + 53 * x) (sI o) (sI (w + 3 * (if ad = true then 1 else 0))) M4 Lm := by
    cases ad with
    | false => rw [bI_f, if_pos (show (0 : Int32) = 0 from rfl), if_neg (by decide)]; rfl
    | true => rw [bI_t, if_neg (show ¬ (1 : Int32) = 0 by decide), if_pos rfl, show sI w + 3 = sI (w + 3 * 1) from sI_add (a := w) (b := 3)]; rfl
  rw [hty]
  unfold fX19_addAct_b111 fX19_addAct_b129 fX19_addAct_b130
  obtain ⟨rc, A5, Lc5, i1, i3⟩ := wq_e3 (c_addAct (fu := fu) (k := 293 + 36 * x) (o := o) (w := w) (m := d) (v := v) (ad := ad) v6 v7 ho400 (fun cw => by rw [v10]; exact ho cw) hw (by omega))
  obtain ⟨rm, M5, Lm5, j1, j2, j3, j4⟩ := wq_e3 (m_act (fu := fu) (q := 964 + 53 * x) (o := o) (w := w) (m := d) (v := v) (ad := ad) v6 v8 v9 ho400 (fun cw => by rw [v10]; exact ho cw) (fun cw => by rw [o3 cw]; exact Nat.le_refl _) hw (by omega))
  dsimp only at i3 j2 j3 j4
  rw [i1, mb3_s, j1, mb3_s]
  have badz : ∀ r : Int32, ¬ (0 : Int32) ≤ r → rc = r → A5 = A4 → Lc5 = Lc → rm = r → ReM (964 + 53 * x) M5 Lm5 c b00 va D xx → ClM (964 + 53 * x) M5 Lm5 c → RlQ A0 M0 Lc Lm n le (mb2 (DX8_heed fu rc A5 Lc5) (fun M20 L21 => some (M20, L21))) (mb3 (DX19_fits fu rm M5 Lm5) (fun r25 M23 L24 => (if r25 = 0 then mzz 0 (some (0, M23, L24)) else mzz 1 (some (1, M23, L24))))) := fun r hr y1 y2 y3 y4 y5 y6 => by
    subst y1 y2 y3 y4
    have l8 : M5 732 8 = sI b := by rw [j3 _ _ (by omega)]; exact g8
    rw [c_heed l9 g7 hr, mb2_s, m_fits l8 hr, mb3_s, if_pos (show (0 : Int32) = 0 from rfl)]
    exact rl_heed (x := x) hP4 (by omega) (by omega) fa4 fm4 hx hbn (fun p y u => j3 p y (by omega)) (fun p u => j2 p (by omega)) ⟨v1, v2, by rw [j3 _ _ (by omega)]; exact v3, by rw [j3 _ _ (by omega)]; exact v4, by rw [j2 _ (by omega)]; exact v5, c, va, D, xx, v6, v7, y5, y6, v10, v11, by rw [j3 _ _ (by omega)]; exact v12, v13⟩ rfl rfl
  by_cases c0 : o = 0
  · rw [if_pos c0] at i3 j4
    injection i3 with x1 x2
    injection x2 with x2 x3
    exact badz (-1) (by decide) x1 x2 x3 j4.1 j4.2.1 j4.2.2
  rw [if_neg c0] at i3 j4
  by_cases c2 : w ≠ 2 ∧ 2 ≤ c 2 o
  · rw [if_pos c2] at i3 j4
    injection i3 with x1 x2
    injection x2 with x2 x3
    exact badz (-2) (by decide) x1 x2 x3 j4.1 j4.2.1 j4.2.2
  rw [if_neg c2] at i3 j4
  by_cases c6 : 600 ≤ c 0 2
  · rw [if_pos c6] at i3 j4
    injection i3 with x1 x2
    injection x2 with x2 x3
    exact badz (-4) (by decide) x1 x2 x3 j4.1 j4.2.1 j4.2.2
  rw [if_neg c6] at i3 j4
  obtain ⟨rfl, rfl, i4, i5⟩ := i3
  obtain ⟨rfl, j5, j6⟩ := j4
  rw [c_heed0 (by omega), mb2_s, m_fits0 (by omega), mb3_s, if_neg (show ¬ (1 : Int32) = 0 by decide)]
  have ad1 : (if ad = true then 1 else 0) ≤ 1 := by cases ad <;> decide
  exact rl_chart (x := x) hP4 (by omega) (by omega) fa4 fm4 hx l9 (fun p y u => i5 p y (by omega) (by omega)) (i5 _ _ (by omega) (by omega)) (fun p y u1 u2 => j3 p y (by omega)) (fun _ _ => rfl) (fun p u => j2 p (by omega)) ⟨by rw [i5 _ _ (by omega) (by omega)]; exact v1, by rw [i5 _ _ (by omega) (by omega)]; exact v2, by rw [j3 _ _ (by omega)]; exact v3, by rw [j3 _ _ (by omega)]; exact v4, by rw [j2 _ (by omega)]; exact v5, cax c o w d (if ad = true then 1 else 0), vax va (c 0 2) v, D, xx, Cv_ax v6 ho400 (by
    by_cases cw : w = 2
    · exact Or.inl cw
    · have := ho cw
      exact Or.inr (by omega)) hw (by omega) ad1 c6, i4, j5, j6, v10, v11, by rw [j3 _ _ (by omega)]; exact v12, v13⟩ rfl rfl
