/-! READING: the line of a datum -/
noncomputable def daG (fu : Nat) (v1 : Int32) (M1 : mwM) (L2 : mwL) : Option (Int32 × mwM × mwL) :=
  mlet (M1 732 9) (fun x5 => mlet ((M1 732 10) - (M1 732 9)) (fun x6 => mb3 (DX19_number fu ((-999999999)) 999999999 M1 L2) (fun r9 M7 L8 => (if r9 = 0 then some (0, M7, L8) else mlet (M7 732 13) (fun x11 => mb3 (DX19_end fu M7 L8) (fun r14 M12 L13 => (if r14 = 0 then some (0, M12, L13) else mck v1 12 ((if (M12 757 v1.toNatClampNeg) = 32 then mb3 (DX19_fail fu 6 (M12 732 8) M12 L13) (fun r33 M31 L32 => mzz r33 (some (r33, M31, L32))) else mck v1 12 (mb3 (DX13_data fu ((964 + 53 * v1.toNatClampNeg)) x11.toInt64 M12 L13) (fun r21 M19 L20 => mck v1 12 (mck ((32 * v1) + (M19 757 v1.toNatClampNeg)) 384 (mlet (mset M19 758 (((32 * v1) + (M19 757 v1.toNatClampNeg)).toNatClampNeg) x5) (fun M24 => mck v1 12 (mck ((32 * v1) + (M24 757 v1.toNatClampNeg)) 384 (mlet (mset M24 759 (((32 * v1) + (M24 757 v1.toNatClampNeg)).toNatClampNeg) x6) (fun M27 => mck v1 12 (mck v1 12 (mlet (mset M27 757 (v1.toNatClampNeg) ((M27 757 v1.toNatClampNeg) + 1)) (fun M30 => some (1, M30, L20)))))))))))))))))))))
theorem daG_m {fu : Nat} {M : mwM} {L : mwL} : DX19_addDatum fu M L = mb3 (DX19_named fu 3 M L) (fun r47 M45 L46 => (if r47 < 0 then some (0, M45, L46) else mb3 (DX19_must fu M45 L46) (fun r51 M49 L50 => (if r51 = 0 then some (0, M49, L50) else mb3 (DX19_findDatum fu r47 M49 L50) (fun r55 M53 L54 => (if r55 < 0 then mb3 (DX19_newIn fu 0 M53 L54) (fun r3 M1 L2 => if r3 = 0 then some (0, M1, L2) else daG fu r47 M1 L2) else mb3 (DX19_newIn fu 1 M53 L54) (fun r3 M1 L2 => if r3 = 0 then some (0, M1, L2) else daG fu r47 M1 L2))))))) := rfl
theorem st_datum {fu n le a b C T X S K R W : Nat} {A M : mwM} {Lc Lm : mwL} {tx : Nat → Nat} {nl : List Nm} {ow ct : Nat → Nat} {sg : Nat → Nat → Nat} {tu : Nat → Bool} {ky rd wt : Nat → Nat → Nat} (hfu : 6100 ≤ fu) (h : Ld A M n tx le a) (hP : PR A M Lc Lm n C T X S K R W nl ow ct sg tu ky rd wt) (h7 : A 1 7 = sI b) (h8 : M 732 8 = sI b) (hbn : b ≤ 6000) (hb : a < le → tx a = 32) (hl : 12 * nl.length + 5 ≤ a) (hk : 15 * K ≤ a) : RlQ A M Lc Lm n le (DX8_readDatum fu A Lc) (DX19_addDatum fu M Lm) := by
  obtain ⟨⟨c1, c2, c3⟩, pT, pX, pB, pS, pK, pR, pW, pN, nB⟩ := id hP
  have ha := h.2.2.2.2.2.2.2.1
  have hle := h.2.2.2.2.1
  have hn := h.1.2.1
  have hX12 := pX.2.2.1
  obtain ⟨A1, M1, f1, f2, hr⟩ := st_told (fu := fu) (Lc := Lc) (Lm := Lm) (k := 2) hfu h pN (by omega)
  have fa1 : fWn A A1 := fun x y u => f1 x y (by omega)
  have fm1 : fG T S M M1 := fun x y u1 u2 u3 => f2 x y (by omega)
  rw [daG_m]
  unfold DX8_readDatum fX8_readDatum_b66
  rcases hr with ⟨q, q1, q2, q3, hk1, e1, e2, hL1, hH1⟩ | ⟨e1, e2, hX⟩
  rotate_left
  · rw [show DX8_toldName fu 0 2 A Lc = _ from e1, mb3_s, show DX19_named fu 3 M Lm = _ from e2, mb3_s, if_pos (show (-1 : Int32) < 0 by decide)]
    unfold DX8_dataOf
    simp only [nf_new (Fx_n hX), nf_number (Fx_n hX), nf_end (Fx_n hX), mb3_s, mb2_s, if_neg (Fx_n hX)]
    exact rl_bad hP (by omega) (by omega) fa1 fm1 hX rfl rfl
  have hx : q.2.2.2.2 < X := by
    rcases (nB.2 q q1).2 q2 with g | g | g | g <;> omega
  obtain ⟨k1, k2, k3⟩ := nw_2 ha hb hk1
  rw [show DX8_toldName fu 0 2 A Lc = _ from e1, mb3_s, show DX19_named fu 3 M Lm = _ from e2, mb3_s, if_neg (ns_s (by omega)), da_of, mb3_s]
  generalize hx' : q.2.2.2.2 = x at *
  have N1 := NaR_f pN (A' := A1) (M' := M1) (fun x y u => fa1 x y (by omega)) (fun x y u => fm1 x y (by omega) (by omega) (by omega))
  obtain ⟨A2, M2, f3, f4, hr⟩ := st_newDat (fu := fu) (Lc := Lc) (Lm := Lm) (daG fu (sI x)) hfu hL1 N1 hx
  have fa2 : fWn A A2 := fun x y u => by rw [f3 x y (by omega), fa1 x y u]
  have fm2 : fG T S M M2 := fun x y u1 u2 u3 => by rw [f4 x y (by omega), fm1 x y u1 u2 u3]
  rcases hr with ⟨hk2, e3, e4, hL2, hH2, w10, w11⟩ | ⟨e3, e4, hX⟩
  rotate_left
  · rw [e3, mb2_s, e4]
    simp only [nf_number (Fx_n hX), nf_end (Fx_n hX), mb3_s, mb2_s, if_neg (Fx_n hX)]
    exact rl_bad hP (by omega) (by omega) fa2 fm2 hX rfl rfl
  obtain ⟨k4, k5, k6⟩ := nw_2 k2 k3 hk2
  obtain ⟨y8, y9, n9, n10, hlt2⟩ := id hH2
  rw [e3, mb2_s, e4]
  unfold daG
  rw [mlet_e, mlet_e, n9, n10, sI_sub (by omega)]
  have N2 := NaR_f pN (A' := A2) (M' := M2) (fun x y u => fa2 x y (by omega)) (fun x y u => fm2 x y (by omega) (by omega) (by omega))
  generalize hw : nwB tx le (nwE tx le a) = w at *
  generalize he : nwE tx le (nwE tx le a) = e at *
  obtain ⟨A3, M3, f5, f6, hr⟩ := st_number (fu := fu) (Lc := Lc) (Lm := Lm) (a1 := -999999999) (a2 := 999999999) hfu hL2
  have fa3 : fWn A A3 := fun x y u => by rw [f5 x y (by omega), fa2 x y u]
  have fm3 : fG T S M M3 := fun x y u1 u2 u3 => by rw [f6 x y (by omega), fm2 x y u1 u2 u3]
  rcases hr with ⟨hk3, z1, z2, z3, e5, e6, e7, hL3, _⟩ | ⟨e5, e6, hX⟩
  rotate_left
  · rw [e5, mb3_s, e6, mb3_s, if_pos (show (0 : Int32) = 0 from rfl)]
    simp only [nf_end (Fx_n hX), mb3_s, mb2_s, if_neg (Fx_n hX)]
    exact rl_bad hP (by omega) (by omega) fa3 fm3 hX rfl rfl
  obtain ⟨k7, k8, k9⟩ := nw_2 k5 k6 hk3
  rw [e5, mb3_s, e6, mb3_s, if_neg (show ¬ (1 : Int32) = 0 by decide), mlet_e, e7]
  generalize nuV tx (nwB tx le e) (nwE tx le e - nwB tx le e) = v
  obtain ⟨A5, M5, f9, f10, hr⟩ := st_eol (fu := fu) (Lc := Lc) (Lm := Lm) hfu hL3
  have fa5 : fWn A A5 := fun x y u => by rw [f9 x y (by omega), fa3 x y u]
  have fm5 : fG T S M M5 := fun x y u1 u2 u3 => by rw [f10 x y (by omega), fm3 x y u1 u2 u3]
  rcases hr with ⟨hk5, e9, e10, hL5⟩ | ⟨e9, e10, hX⟩
  rotate_left
  · rw [e9, mb2_s, if_neg (Fx_n hX), e10, mb3_s, if_pos (show (0 : Int32) = 0 from rfl)]
    exact rl_bad hP (by omega) (by omega) fa5 fm5 hX rfl rfl
  have l9 := hL5.2.2.2.2.2.2.2.2
  have hP5 := PR_f hP (A' := A5) (M' := M5) (fun a y u => fa5 a y (by omega)) (fun a y u1 u2 u3 => fm5 a y (by omega) u2 u3)
  have g7 : A5 1 7 = sI b := by rw [fa5 _ _ (by omega)]; exact h7
  have g8 : M5 732 8 = sI b := by rw [fm5 _ _ (by omega) (by omega) (by omega)]; exact h8
  have g10 : A5 1 10 = sI w := by rw [f9 _ _ (by omega), f5 _ _ (by omega)]; exact w10
  have g11 : A5 1 11 = sI (e - w) := by rw [f9 _ _ (by omega), f5 _ _ (by omega)]; exact w11
  have N5 := hP5.2.2.2.2.2.2.2.2.1
  obtain ⟨nC, nO, nM, nX, nS⟩ := id N5
  obtain ⟨v1, v2, v3, v4, v5, c, va, D, xx, v6, v7, v8, v9, v10, v11, v12, v13⟩ := (hP5.2.2.1.2.2.2.1 x hx).2.2.2
  have s0 : M5 757 x = sI (c 0 4) := by rw [v11]; exact (nS x hx).2.1
  have h32 : c 0 4 ≤ 32 := v6.2.2.2.2.1
  rw [e9, mb2_s, if_pos l9, e10, mb3_s, if_neg (show ¬ (1 : Int32) = 0 by decide), mck_s (show x < 12 by omega) (by omega), mck_s (show x < 12 by omega) (by omega), sI_nn (by omega), s0]
  obtain ⟨rc, A6, Lc6, i1, i3⟩ := wq_e3 (c_addDatum (fu := fu) (k := 293 + 36 * x) (v := v) v6 v7)
  dsimp only at i3
  rw [i1, mb3_s]
  by_cases c4 : 32 ≤ c 0 4
  · rw [if_pos c4] at i3
    injection i3 with x1 x2
    injection x2 with x2 x3
    subst x1 x2 x3
    have hh : ¬ (flA A6 (sI (hdK (-4))) (sI b)) 1 12 = 0 := by
      show ¬ mset (mset A6 1 12 (sI (hdK (-4)))) 1 13 (sI b) 1 12 = 0
      rw [mset_n (by omega), mset_s]
      decide
    rw [c_heed l9 g7 (by decide), mb2_s, da_of, mb3_s, nf_keep hh, mb2_s, if_pos (show sI (c 0 4) = 32 by rw [show c 0 4 = 32 by omega]; rfl), m_fail, mb3_s, g8]
    exact rl_heed (x := x) (r := -4) hP5 (by omega) (by omega) fa5 fm5 hx hbn (fun p y u => rfl) (fun p u => rfl) ⟨v1, v2, v3, v4, v5, c, va, D, xx, v6, v7, v8, v9, v10, v11, v12, v13⟩ rfl rfl
  rw [if_neg c4] at i3
  obtain ⟨rfl, i4, i5, i6⟩ := i3
  obtain ⟨rm, M6, Lm6, j1, j2, j3, j4⟩ := wq_e3 (m_data (fu := fu) (q := 964 + 53 * x) (v := v.toInt64) v6 v8 v9)
  dsimp only at j2 j3 j4
  rw [if_neg c4] at j4
  obtain ⟨rfl, _, j5, j6⟩ := j4
  obtain ⟨A7, r1, r2, r3⟩ := c_keep (fu := fu) (σ := 2 + 2 * x) (k := 5) (v := c 0 4) (L := Lc6) (A := A6) (NmC_f nC (fun p y u => i5 p y (by omega))) (by rw [i5 _ _ (by omega)]; exact l9) (by rw [i5 _ _ (by omega)]; exact g10) (by rw [i5 _ _ (by omega)]; exact g11) (by omega)
  have e32 : (32 : Int32) * sI x + sI (c 0 4) = sI (32 * x + c 0 4) := by rw [show (32 : Int32) * sI x = sI (32 * x) from sI_lml, sI_add]
  have s6 : M6 757 x = sI (c 0 4) := by rw [j2 _ _ (by omega)]; exact s0
  rw [c_heed0 (by omega), mb2_s, da_of, mb3_s, show DX8_keepName fu (sI (2 + 2 * x)) 5 (sI (c 0 4)) A6 Lc6 = _ from r1, mb2_s, if_neg (show ¬ sI (c 0 4) = 32 by rw [show (32 : Int32) = sI 32 from rfl, sI_eq (by omega) (by omega)]; omega), mck_s (show x < 12 by omega) (by omega), j1, mb3_s, mck_s (show x < 12 by omega) (by omega), s6, e32, mck_s (show 32 * x + c 0 4 < 384 by omega) (by omega), mlet_e, sI_nn (by omega), mck_s (show x < 12 by omega) (by omega), mset_n (show ¬ (757 = 758 ∧ x = 32 * x + c 0 4) by omega), s6, e32, mck_s (show 32 * x + c 0 4 < 384 by omega) (by omega), mlet_e, sI_nn (by omega), mck_s (show x < 12 by omega) (by omega), mck_s (show x < 12 by omega) (by omega), mlet_e, mset_n (show ¬ (757 = 759 ∧ x = 32 * x + c 0 4) by omega), mset_n (show ¬ (757 = 758 ∧ x = 32 * x + c 0 4) by omega), s6, sI_1]
  generalize hM7 : mset (mset (mset M6 758 (32 * x + c 0 4) (sI w)) 759 (32 * x + c 0 4) (sI (e - w))) 757 x (sI (c 0 4 + 1)) = M7
  have fm7 : ∀ p y, ¬ (p = 757 ∧ y = x) → ¬ ((p = 758 ∨ p = 759) ∧ y = 32 * x + c 0 4) → M7 p y = M6 p y := fun p y u1 u2 => by rw [← hM7, mset_n (by omega), mset_n (by omega), mset_n (by omega)]
  have s57 : M7 757 x = sI (c 0 4 + 1) := by rw [← hM7, mset_s]
  have s58 : M7 758 (32 * x + c 0 4) = sI w := by rw [← hM7, mset_n (by omega), mset_n (by omega), mset_s]
  have s59 : M7 759 (32 * x + c 0 4) = sI (e - w) := by rw [← hM7, mset_n (by omega), mset_s]
  have hA : ∀ p y, ¬ (293 + 36 * x ≤ p ∧ p ≤ 293 + 36 * x + 35) → ¬ (p = 1 ∧ y = 3) → ¬ (726 ≤ p ∧ p ≤ 730) → A7 p y = A5 p y := fun p y u1 u2 u3 => by rw [r3 p y (by omega) u3, i5 p y (by omega)]
  have hM : ∀ p y, ¬ (964 + 53 * x ≤ p ∧ p ≤ 964 + 53 * x + 29) → ¬ (757 ≤ p ∧ p ≤ 759) → M7 p y = M5 p y := fun p y u1 u2 => by rw [fm7 p y (by omega) (by omega), j2 p y (by omega)]
  have len : (nsL (2 + 2 * x) (nl ++ [(2 + 2 * x, w, e - w, 5, c 0 4)])).length = c 0 4 + 1 := by
    rw [ns_app, if_pos rfl, List.length_append, v11]
    rfl
  have oth : ∀ σ, σ ≠ 2 + 2 * x → nsL σ (nl ++ [(2 + 2 * x, w, e - w, 5, c 0 4)]) = nsL σ nl := fun σ hσ => by rw [ns_app, if_neg (show ¬ 2 + 2 * x = σ by omega)]
  have N7 : NaR A7 M7 n X (nl ++ [(2 + 2 * x, w, e - w, 5, c 0 4)]) := by
    refine ⟨r2, NmO_a nO ⟨by show 2 + 2 * x < 100; omega, by show w + (e - w) ≤ n; omega, by show 1 ≤ e - w; omega, by show 5 < 10; omega, by show c 0 4 < 1000; omega⟩, ?_, nX, fun z hz => ?_⟩
    · rw [oth 0 (by omega)]
      obtain ⟨p1, p2, p3⟩ := nM
      refine ⟨by rw [hM _ _ (by omega) (by omega)]; exact p1, p2, fun t ht => ?_⟩
      rw [hM _ _ (by omega) (by omega), hM _ _ (by omega) (by omega), hM _ _ (by omega) (by omega), hM _ _ (by omega) (by omega)]
      exact p3 t ht
    · obtain ⟨⟨p1, p2, p3⟩, ⟨d1, d2, d3⟩⟩ := nS z hz
      rw [oth (1 + 2 * z) (by omega)]
      refine ⟨⟨by rw [hM _ _ (by omega) (by omega)]; exact p1, p2, fun t ht => by rw [hM _ _ (by omega) (by omega), hM _ _ (by omega) (by omega)]; exact p3 t ht⟩, ?_⟩
      by_cases cz : z = x
      · subst cz
        refine ⟨by rw [len]; exact s57, by rw [len]; omega, fun t ht => ?_⟩
        have ht' : t < c 0 4 + 1 := by rw [← len]; exact ht
        have hs : nsL (2 + 2 * z) (nl ++ [(2 + 2 * z, w, e - w, 5, c 0 4)]) = nsL (2 + 2 * z) nl ++ [(2 + 2 * z, w, e - w, 5, c 0 4)] := by rw [ns_app, if_pos rfl]
        by_cases ct : t = c 0 4
        · have e0 : (nsL (2 + 2 * z) (nl ++ [(2 + 2 * z, w, e - w, 5, c 0 4)]))[t]'ht = (2 + 2 * z, w, e - w, 5, c 0 4) := by
            simp only [hs]
            rw [List.getElem_append_right (by omega)]
            exact List.getElem_singleton _
          rw [e0, ct]
          exact ⟨s58, s59, rfl, rfl⟩
        · have ht2 : t < (nsL (2 + 2 * z) nl).length := by omega
          have e0 : (nsL (2 + 2 * z) (nl ++ [(2 + 2 * z, w, e - w, 5, c 0 4)]))[t]'ht = (nsL (2 + 2 * z) nl)[t] := by
            simp only [hs]
            exact List.getElem_append_left ht2
          rw [e0, fm7 _ _ (by omega) (by omega), fm7 _ _ (by omega) (by omega), j2 _ _ (by omega), j2 _ _ (by omega)]
          exact d3 t ht2
      · rw [oth (2 + 2 * z) (by omega)]
        refine ⟨by rw [fm7 _ _ (by omega) (by omega), j2 _ _ (by omega)]; exact d1, d2, fun t ht => ?_⟩
        have : 32 * z + t ≠ 32 * x + c 0 4 := by omega
        rw [fm7 _ _ (by omega) (by omega), fm7 _ _ (by omega) (by omega), j2 _ _ (by omega), j2 _ _ (by omega)]
        exact d3 t ht
  refine ⟨A7, M7, Lc6, Lm6, true, rfl, rfl, ⟨fun p y u => ?_, fun p y u => ?_, ?_, ?_⟩, ?_, C, T, X, S, K, R, W, nl ++ [(2 + 2 * x, w, e - w, 5, c 0 4)], ow, ct, sg, tu, ky, rd, wt, PR_ch hP5 hx (fun p y u1 u2 u3 => hA p y u1 (by omega) u3) (by rw [r3 _ _ (by omega) (by omega), i5 _ _ (by omega)]) (fun p y u1 u2 u3 u4 => hM p y (by omega) (by omega)) (fun p hp => i6 p hp) (fun p hp => j3 p (by omega)) N7 (NmB_c nB (by show 2 + 2 * x ≠ 0; omega) (by show 2 + 2 * x ≤ 2 * X; omega)) ?_ (fun z hz => ⟨oth _ (by omega), oth _ (by omega)⟩), ?_, by omega⟩
  · rw [hA p y (by omega) (by omega) (by omega), fa5 p y (by omega)]
  · rw [hM p y (by omega) (by omega), fm5 p y (by omega) (by omega) (by omega)]
  · exact fun p u => i6 p (by omega)
  · exact fun p u1 u2 => j3 p (by omega)
  · rw [if_pos rfl, hA _ _ (by omega) (by omega) (by omega)]
    exact l9
  · rw [len, oth (1 + 2 * x) (by omega)]
    refine ⟨by rw [r3 _ _ (by omega) (by omega), i5 _ _ (by omega)]; exact v1, by rw [r3 _ _ (by omega) (by omega), i5 _ _ (by omega)]; exact v2, by rw [hM _ _ (by omega) (by omega)]; exact v3, by rw [hM _ _ (by omega) (by omega)]; exact v4, by rw [j3 _ (by omega)]; exact v5, cda c, va, Dda D (c 0 4) v.toInt64, xx, Cv_da v6 c4, ReC_f i4 (fun p y u1 u2 _ _ _ _ => r3 p y (by omega) (by omega)) rfl, ReM_f j5 (fun p y u1 u2 _ => fm7 p y (by omega) (by omega)) (fun _ _ _ => rfl), ClM_f j6 (fun p y u1 u2 _ => fm7 p y (by omega) (by omega)) (fun _ _ _ => rfl), v10, rfl, by rw [hM _ _ (by omega) (by omega)]; exact v12, v13⟩
  · rw [List.length_append]
    show 12 * (nl.length + 1) ≤ le + 1
    omega
