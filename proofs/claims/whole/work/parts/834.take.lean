/-! a frame's signals are taken: those who read -/
abbrev RdR (A M : mwM) (Lc Lm : mwL) (R S X : Nat) (rs rc rd re : Nat → Nat) : Prop := A 3 15 = sI R ∧ M 732 55 = sI R ∧ R ≤ 60 ∧ ∀ r, r < R → A 286 r = sI (rs r) ∧ M 769 r = sI (rs r) ∧ rs r < S ∧ A 287 r = sI (rc r) ∧ M 770 r = sI (rc r) ∧ rc r < X ∧ A 288 r = sI (rd r) ∧ M 771 r = sI (rd r) ∧ rd r < 32 ∧ A 289 r = sI (re r) ∧ M 772 r = sI (re r) ∧ re r < 1000 ∧ ∃ h : Bool, A 290 r = bI h ∧ M 773 r = bI h ∧ (h = true → Lc 291 r = Lm 774 r)
abbrev ChW (A M : mwM) (X : Nat) (cc : Nat → Nat) : Prop := X ≤ 12 ∧ ∀ x, x < X → A (293 + 36 * x) 5 = sI (cc x) ∧ cc x < 6 ∧ ∃ tk, tk < 12 ∧ M 749 x = sI tk ∧ M 742 tk = sI (cc x)
def QdR (A M : mwM) (Lc Lm : mwL) (x : Nat) : Prop := ∃ qn, qn ≤ 16 ∧ A (293 + 36 * x) 11 = sI qn ∧ M 752 x = sI qn ∧ (∀ i, i < qn → A (293 + 36 * x + 35) i = M 753 (16 * x + i) ∧ ∃ es, es < 1000 ∧ A (293 + 36 * x + 35) i = sI es) ∧ Lc (293 + 36 * x + 34) = Lm (964 + 53 * x + 21)
abbrev tkA (A A' : mwM) : Prop := ∀ a y, a ≠ 290 → ¬ (a = 292 ∧ y = 2) → ¬ (293 ≤ a ∧ (((a - 293) % 36 = 0 ∧ y = 11) ∨ (a - 293) % 36 = 35)) → A' a y = A a y
abbrev tkM (M M' : mwM) : Prop := ∀ a y, a ≠ 773 → ¬ (a = 939 ∧ y = 2) → a ≠ 752 → a ≠ 753 → M' a y = M a y
abbrev tkLc (L L' : mwL) : Prop := ∀ a y, a ≠ 291 → ¬ (293 ≤ a ∧ (a - 293) % 36 = 34 ∧ y < 32) → L' a y = L a y
abbrev tkLm (L L' : mwL) : Prop := ∀ a y, a ≠ 774 → ¬ (964 ≤ a ∧ (a - 964) % 53 = 21 ∧ y < 32) → L' a y = L a y
theorem QdR_o {A A' M M' : mwM} {Lc Lc' Lm Lm' : mwL} {x z : Nat} (h : QdR A M Lc Lm z) (ne : z ≠ x) (hz : z < 12) (hA : ∀ a y, (a = 293 + 36 * z ∧ y = 11) ∨ a = 293 + 36 * z + 35 → A' a y = A a y) (hM : ∀ a y, (a = 752 ∧ y = z) ∨ (a = 753 ∧ 16 * z ≤ y ∧ y < 16 * z + 16) → M' a y = M a y) (hC : ∀ y, Lc' (293 + 36 * z + 34) y = Lc (293 + 36 * z + 34) y) (hL : ∀ y, Lm' (964 + 53 * z + 21) y = Lm (964 + 53 * z + 21) y) : QdR A' M' Lc' Lm' z := by
  obtain ⟨qn, q1, q2, q3, q4, q5⟩ := h
  exact ⟨qn, q1, by rw [hA _ _ (by omega)]; exact q2, by rw [hM _ _ (by omega)]; exact q3, fun i hi => by rw [hA _ _ (by omega), hM _ _ (by omega)]; exact q4 i hi, by rw [funext hC, funext hL]; exact q5⟩
theorem st_read1 {fu c f r R S X : Nat} {rs rc rd re : Nat → Nat} {v : Int64} {A M : mwM} {Lc Lm : mwL} (rrM : (Int32 × mwM × mwL) → Option (mwM × mwL)) (hr : r < R) (hR : RdR A M Lc Lm R S X rs rc rd re) (hX : X ≤ 12) (hQ : ∀ x, x < X → QdR A M Lc Lm x) (h2 : A 292 2 = M 939 2) : ∃ A' Lc' M' Lm', DX1_takeRead fu (sI r) v A Lc = some (A', Lc') ∧ (if M 773 r = 0 then fX19_come_b173 fu (sI c) (sI f) rrM (sI r) (sI (rc r)) v M Lm else mck (sI r) 60 (if lg_cmp (Lm 774 r) v = 0 then fX19_come_b178 fu (sI c) (sI f) rrM (sI r) (sI (rc r)) v 0 M Lm else fX19_come_b173 fu (sI c) (sI f) rrM (sI r) (sI (rc r)) v M Lm)) = rrM (sI (r + 1), M', Lm') ∧ RdR A' M' Lc' Lm' R S X rs rc rd re ∧ (∀ x, x < X → QdR A' M' Lc' Lm' x) ∧ A' 292 2 = M' 939 2 ∧ tkA A A' ∧ tkM M M' ∧ tkLc Lc Lc' ∧ tkLm Lm Lm' := by
  obtain ⟨g1, g2, g3, g4⟩ := id hR
  obtain ⟨a1, a2, a3, a4, a5, a6, a7, a8, a9, a10, a11, a12, h, a13, a14, a15⟩ := g4 r hr
  have e2 : (2 : Int32).toNatClampNeg = 2 := rfl
  -- another value
  have other : ∃ A' Lc' M' Lm', fX1_takeRead_b24 fu (sI r) v A Lc = some (A', Lc') ∧ fX19_come_b173 fu (sI c) (sI f) rrM (sI r) (sI (rc r)) v M Lm = rrM (sI (r + 1), M', Lm') ∧ RdR A' M' Lc' Lm' R S X rs rc rd re ∧ (∀ x, x < X → QdR A' M' Lc' Lm' x) ∧ A' 292 2 = M' 939 2 ∧ tkA A A' ∧ tkM M M' ∧ tkLc Lc Lc' ∧ tkLm Lm Lm' := by
    unfold fX1_takeRead_b24 fX1_takeRead_b107 fX19_come_b173 fX19_come_b178 fX19_come_b252 fX19_come_b308 DX13_put
    rw [show vp_nar .boolean 1 = (1 : Int32) from rfl]
    generalize hA1 : mset A 290 (sI r).toNatClampNeg 1 = A1
    generalize hM1 : mset M 773 (sI r).toNatClampNeg 1 = M1
    rw [sI_nn (show r < 2000000000 by omega)] at hA1 hM1
    have tA1 : ∀ a y, ¬ (a = 290 ∧ y = r) → A1 a y = A a y := fun a y u => by rw [← hA1, mset_n u]
    have tM1 : ∀ a y, ¬ (a = 773 ∧ y = r) → M1 a y = M a y := fun a y u => by rw [← hM1, mset_n u]
    simp (disch := omega) only [mck_s, sI_nn, mlet_e]
    rw [tA1 287 r (by omega), tA1 288 r (by omega), tA1 289 r (by omega), a4, a7, a10, tM1 771 r (by omega), a8, if_neg (show ¬ (1 : Int32) = 0 by decide)]
    simp (disch := omega) only [mck_s, sI_nn, mb2_s]
    rw [tM1 772 r (by omega), a11, tM1 752 (rc r) (by omega)]
    obtain ⟨qn, q1, q2, q3, q4, q5⟩ := hQ (rc r) a6
    generalize hLc : mset (mset Lc 291 r v) (293 + 36 * rc r + 34) (rd r) v = Lc1
    generalize hLm : mset (mset Lm 774 r v) (964 + 53 * rc r + 21) (rd r) v = Lm1
    have fLc : tkLc Lc Lc1 := fun a y u1 u2 => by rw [← hLc, mset_n (by omega), mset_n (by omega)]
    have fLm : tkLm Lm Lm1 := fun a y u1 u2 => by rw [← hLm, mset_n (by omega), mset_n (by omega)]
    have dat : ∀ x, x < X → Lc1 (293 + 36 * x + 34) = Lm1 (964 + 53 * x + 21) := fun x hx => by
      obtain ⟨_, _, _, _, _, q⟩ := hQ x hx
      apply funext
      intro b
      have qb := congrFun q b
      by_cases e : x = rc r ∧ b = rd r
      · rw [e.1, e.2, ← hLc, ← hLm, mset_s, mset_s]
      · rw [← hLc, ← hLm, mset_n (by omega), mset_n (by omega), mset_n (by omega), mset_n (by omega)]
        exact qb
    -- what stays
    have rest : ∀ A2 M2 : mwM, (∀ a y, ¬ (a = 292 ∧ y = 2) → ¬ (a = 293 + 36 * rc r ∧ y = 11) → ¬ (a = 293 + 36 * rc r + 35) → A2 a y = A1 a y) → (∀ a y, ¬ (a = 939 ∧ y = 2) → ¬ (a = 752 ∧ y = rc r) → ¬ (a = 753 ∧ 16 * rc r ≤ y ∧ y < 16 * rc r + 16) → M2 a y = M1 a y) → A2 292 2 = M2 939 2 → (∃ qn, qn ≤ 16 ∧ A2 (293 + 36 * rc r) 11 = sI qn ∧ M2 752 (rc r) = sI qn ∧ ∀ i, i < qn → A2 (293 + 36 * rc r + 35) i = M2 753 (16 * rc r + i) ∧ ∃ es, es < 1000 ∧ A2 (293 + 36 * rc r + 35) i = sI es) → RdR A2 M2 Lc1 Lm1 R S X rs rc rd re ∧ (∀ x, x < X → QdR A2 M2 Lc1 Lm1 x) ∧ A2 292 2 = M2 939 2 ∧ tkA A A2 ∧ tkM M M2 ∧ tkLc Lc Lc1 ∧ tkLm Lm Lm1 := by
      intro A2 M2 hA2 hM2 h22 hq
      have sA : ∀ a y, ¬ (a = 290 ∧ y = r) → ¬ (a = 292 ∧ y = 2) → ¬ (a = 293 + 36 * rc r ∧ y = 11) → ¬ (a = 293 + 36 * rc r + 35) → A2 a y = A a y := fun a y u1 u2 u3 u4 => by rw [hA2 a y u2 u3 u4]; exact tA1 a y u1
      have sM : ∀ a y, ¬ (a = 773 ∧ y = r) → ¬ (a = 939 ∧ y = 2) → ¬ (a = 752 ∧ y = rc r) → ¬ (a = 753 ∧ 16 * rc r ≤ y ∧ y < 16 * rc r + 16) → M2 a y = M a y := fun a y u1 u2 u3 u4 => by rw [hM2 a y u2 u3 u4]; exact tM1 a y u1
      refine ⟨⟨by rw [sA _ _ (by omega) (by omega) (by omega) (by omega)]; exact g1, by rw [sM _ _ (by omega) (by omega) (by omega) (by omega)]; exact g2, g3, fun s hs => ?_⟩, fun x hx => ?_, h22, fun a y u1 u2 u3 => sA a y (by omega) u2 (by omega) (by omega), fun a y u1 u2 u3 u4 => sM a y (by omega) u2 (by omega) (by omega), fLc, fLm⟩
      · obtain ⟨b1, b2, b3, b4, b5, b6, b7, b8, b9, b10, b11, b12, hh, b13, b14, b15⟩ := g4 s hs
        refine ⟨by rw [sA _ _ (by omega) (by omega) (by omega) (by omega)]; exact b1, by rw [sM _ _ (by omega) (by omega) (by omega) (by omega)]; exact b2, b3, by rw [sA _ _ (by omega) (by omega) (by omega) (by omega)]; exact b4, by rw [sM _ _ (by omega) (by omega) (by omega) (by omega)]; exact b5, b6, by rw [sA _ _ (by omega) (by omega) (by omega) (by omega)]; exact b7, by rw [sM _ _ (by omega) (by omega) (by omega) (by omega)]; exact b8, b9, by rw [sA _ _ (by omega) (by omega) (by omega) (by omega)]; exact b10, by rw [sM _ _ (by omega) (by omega) (by omega) (by omega)]; exact b11, b12, ?_⟩
        by_cases e : s = r
        · subst e
          refine ⟨true, by rw [hA2 _ _ (by omega) (by omega) (by omega), ← hA1, mset_s]; rfl, by rw [hM2 _ _ (by omega) (by omega) (by omega), ← hM1, mset_s]; rfl, fun _ => ?_⟩
          rw [← hLc, ← hLm, mset_n (by omega), mset_s, mset_n (by omega), mset_s]
        · refine ⟨hh, by rw [sA _ _ (by omega) (by omega) (by omega) (by omega)]; exact b13, by rw [sM _ _ (by omega) (by omega) (by omega) (by omega)]; exact b14, fun w => ?_⟩
          rw [← hLc, ← hLm, mset_n (by omega), mset_n (by omega), mset_n (by omega), mset_n (by omega)]
          exact b15 w
      · by_cases e : x = rc r
        · rw [e]
          obtain ⟨qn, k1, k2, k3, k4⟩ := hq
          exact ⟨qn, k1, k2, k3, k4, dat (rc r) a6⟩
        · obtain ⟨qx, k1, k2, k3, k4, k5⟩ := hQ x hx
          exact ⟨qx, k1, by rw [sA _ _ (by omega) (by omega) (by omega) (by omega)]; exact k2, by rw [sM _ _ (by omega) (by omega) (by omega) (by omega)]; exact k3, fun i hi => by rw [sA _ _ (by omega) (by omega) (by omega) (by omega), sM _ _ (by omega) (by omega) (by omega) (by omega)]; exact k4 i hi, dat x hx⟩
    have h22 : A1 292 2 = M1 939 2 := by rw [tA1 _ _ (by omega), tM1 _ _ (by omega)]; exact h2
    have A11 : A1 (293 + 36 * rc r) 11 = sI qn := by rw [tA1 _ _ (by omega)]; exact q2
    have M752 : M1 752 (rc r) = sI qn := by rw [tM1 _ _ (by omega)]; exact q3
    have old : ∀ i, i < qn → A1 (293 + 36 * rc r + 35) i = M1 753 (16 * rc r + i) ∧ ∃ es, es < 1000 ∧ A1 (293 + 36 * rc r + 35) i = sI es := fun i hi => by rw [tA1 _ _ (by omega), tM1 _ _ (by omega)]; exact q4 i hi
    rw [sI_1]
    by_cases z : re r = 0
    · have z1 : sI (re r) = 0 := by rw [z]; rfl
      rw [z1, if_pos (show (0 : Int32) = 0 from rfl), if_pos (show (0 : Int32) ≤ 0 by decide), if_pos (show (0 : Int32) ≤ 0 by decide)]
      exact ⟨A1, Lc1, M1, Lm1, rfl, rfl, rest A1 M1 (fun _ _ _ _ _ => rfl) (fun _ _ _ _ _ => rfl) h22 ⟨qn, q1, A11, M752, old⟩⟩
    · rw [if_neg (show ¬ sI (re r) = 0 by rw [show (0 : Int32) = sI 0 from rfl, sI_eq (by omega) (by omega)]; exact z), if_neg (show ¬ sI (re r) ≤ 0 by rw [sI_lel (by omega) (by decide)]; omega), if_neg (show ¬ sI (re r) ≤ 0 by rw [sI_lel (by omega) (by decide)]; omega), q3]
      unfold DX2_queue
      rw [A11]
      by_cases full : qn = 16
      · subst full
        rw [if_neg (show ¬ sI 16 < 16 by decide), mb3_s, if_pos (show (0 : Int32) = 0 from rfl), if_pos (show sI 16 = 16 from rfl), e2]
        rw [mset_n (show ¬ (772 = 939 ∧ r = 2) by omega), mset_n (show ¬ (752 = 939 ∧ rc r = 2) by omega), tM1 772 r (by omega), a11, if_neg (show ¬ sI (re r) ≤ 0 by rw [sI_lel (by omega) (by decide)]; omega), M752, if_pos (show (16 : Int32) ≤ sI 16 by decide)]
        refine ⟨_, Lc1, _, Lm1, rfl, rfl, rest _ _ (fun a y u1 u2 u3 => by rw [mset_n u1]) (fun a y u1 u2 u3 => by rw [mset_n u1]) (by rw [mset_s, mset_s, h22]) ⟨16, by omega, by rw [mset_n (by omega)]; exact A11, by rw [mset_n (by omega)]; exact M752, fun i hi => by rw [mset_n (by omega), mset_n (by omega)]; exact old i hi⟩⟩
      · rw [if_pos (show sI qn < 16 by rw [sI_ltl (by omega) (by decide)]; omega), mck_s (show qn < 16 by omega) (by omega), mlet_e, mlet_e, mb3_s, if_neg (show ¬ (1 : Int32) = 0 by decide), if_neg (show ¬ sI qn = 16 by rw [sI_eql (by omega) (by decide)]; omega), if_neg (show ¬ (16 : Int32) ≤ sI qn by rw [sI_lle (by decide) (by omega)]; omega), sI_lml, sI_add, mck_s (show 16 * rc r + qn < 192 by omega) (by omega), sI_nn (show 16 * rc r + qn < 2000000000 by omega), sI_nn (show qn < 2000000000 by omega), mset_n (show ¬ (293 + 36 * rc r = 293 + 36 * rc r + 35 ∧ 11 = qn) by omega), A11, mset_n (show ¬ (752 = 753 ∧ rc r = 16 * rc r + qn) by omega), M752, sI_1]
        refine ⟨_, Lc1, _, Lm1, rfl, rfl, rest _ _ (fun a y u1 u2 u3 => by rw [mset_n (by omega), mset_n (by omega)]) (fun a y u1 u2 u3 => by rw [mset_n (by omega), mset_n (by omega)]) (by rw [mset_n (by omega), mset_n (by omega), mset_n (by omega), mset_n (by omega)]; exact h22) ⟨qn + 1, by omega, by rw [mset_s], by rw [mset_s], fun i hi => ?_⟩⟩
        by_cases e : i = qn
        · rw [e, mset_n (by omega), mset_s, mset_n (by omega), mset_s]
          exact ⟨rfl, re r, a12, rfl⟩
        · rw [mset_n (by omega), mset_n (by omega), mset_n (by omega), mset_n (by omega)]
          exact old i (by omega)
  unfold DX1_takeRead
  rw [mck_s (show r < 60 by omega) (by omega), sI_nn (show r < 2000000000 by omega), a13, a14, mck_s (show r < 60 by omega) (by omega), mck_s (show r < 60 by omega) (by omega)]
  cases hh : h with
  | false =>
    rw [bI_f, if_neg (show ¬ (0 : Int32) = 1 by decide), if_pos (show (0 : Int32) = 0 from rfl)]
    exact other
  | true =>
    rw [bI_t, if_pos (show (1 : Int32) = 1 from rfl), if_neg (show ¬ (1 : Int32) = 0 by decide), a15 hh]
    by_cases same : lg_cmp (Lm 774 r) v = 0
    · rw [if_pos same, if_pos same]
      have ev : Lm 774 r = v := (lg_cmp_eq _ _).mp same
      unfold fX19_come_b178 fX19_come_b308
      rw [mck_s (show r < 60 by omega) (by omega), mlet_e, mck_s (show r < 60 by omega) (by omega), mlet_e, if_pos (show (0 : Int32) = 0 from rfl), mlet_e, sI_nn (show r < 2000000000 by omega), sI_1, show vp_nar .boolean 1 = (1 : Int32) from rfl]
      refine ⟨A, Lc, mset M 773 r 1, mset Lm 774 r v, rfl, rfl, ⟨g1, by rw [mset_n (by omega)]; exact g2, g3, fun s hs => ?_⟩, fun x hx => ?_, by rw [mset_n (by omega)]; exact h2, fun _ _ _ _ _ => rfl, fun a y u1 u2 u3 u4 => by rw [mset_n (by omega)], fun _ _ _ _ => rfl, fun a y u1 u2 => by rw [mset_n (by omega)]⟩
      · obtain ⟨b1, b2, b3, b4, b5, b6, b7, b8, b9, b10, b11, b12, h', b13, b14, b15⟩ := g4 s hs
        refine ⟨b1, by rw [mset_n (by omega)]; exact b2, b3, b4, by rw [mset_n (by omega)]; exact b5, b6, b7, by rw [mset_n (by omega)]; exact b8, b9, b10, by rw [mset_n (by omega)]; exact b11, b12, ?_⟩
        by_cases e : s = r
        · subst e
          exact ⟨true, by rw [a13, hh], by rw [mset_s]; rfl, fun _ => by rw [mset_s, a15 hh, ev]⟩
        · exact ⟨h', b13, by rw [mset_n (by omega)]; exact b14, fun w => by rw [mset_n (by omega)]; exact b15 w⟩
      · obtain ⟨qx, k1, k2, k3, k4, k5⟩ := hQ x hx
        exact ⟨qx, k1, k2, by rw [mset_n (by omega)]; exact k3, fun i hi => by rw [mset_n (by omega)]; exact k4 i hi, by rw [mset_rown (by omega)]; exact k5⟩
    · rw [if_neg same, if_neg same]
      exact other
