/-! questions: data of charts -/
def ChO (A M : mwM) (X : Nat) (own : Nat → Nat) : Prop := X ≤ 12 ∧ M 732 33 = sI X ∧ (∀ x, x < X → own x < 6 ∧ A (293 + 36 * x) 5 = sI (own x) ∧ ∃ t, t < 12 ∧ M 749 x = sI t ∧ M 742 t = sI (own x)) ∧ ∀ x, X ≤ x → x < 12 → A (293 + 36 * x) 5 = -1
def DtR (Lc Lm : mwL) (X : Nat) : Prop := ∀ x, x < X → ∀ d, d < 32 → Lc (293 + 36 * x + 34) d = Lm (964 + 53 * x + 21) d
def hasB (X : Nat) (own : Nat → Nat) (c q1 q2 : Nat) : Bool := decide (1 ≤ q1 ∧ q1 ≤ X ∧ own (q1 - 1) = c ∧ q2 < 32)
theorem sI_m1n {k : Nat} (h : k < 2000000000) : ¬ (-1 : Int32) = sI k := by
  intro z
  have := congrArg Int32.toInt z
  rw [sI_toInt h] at this
  have h2 : (-1 : Int32).toInt = -1 := by decide
  omega
theorem st_there {fu X c q1 q2 : Nat} {own : Nat → Nat} {A M : mwM} {Lc Lm : mwL} (h : ChO A M X own) (hc : c < 6) (h1 : q1 < 256) (h2 : q2 < 256) (m1 : M 932 1 = sI q1) (m2 : M 932 2 = sI q2) : DX7_hasDatum fu (sI c) (sI q1) (sI q2) A Lc = some (bI (hasB X own c q1 q2), A, Lc) ∧ DX19_isThere fu (sI c) M Lm = some (bI (hasB X own c q1 q2), M, Lm) := by
  obtain ⟨hX, h33, hin, hout⟩ := h
  have t0 : ∀ (A : mwM) (L : mwL), mzz (0 : Int32) (some ((0 : Int32), A, L)) = some (bI false, A, L) := fun A L => by
    unfold mzz
    rw [if_pos (Or.inl rfl)]
    rfl
  have t1 : ∀ (A : mwM) (L : mwL), mzz (1 : Int32) (some ((1 : Int32), A, L)) = some (bI true, A, L) := fun A L => by
    unfold mzz
    rw [if_pos (Or.inr rfl)]
    rfl
  unfold DX7_hasDatum fX7_hasDatum_b33 fX7_hasDatum_b34 DX19_isThere fX19_isThere_b60 fX19_isThere_b61
  rw [t0, t1, t0, t1, show (1 : Int32).toNatClampNeg = 1 by decide, show (2 : Int32).toNatClampNeg = 2 by decide, m1, m2, h33]
  by_cases a1 : q1 < 1
  · have b1 : sI q1 < 1 := by rw [sI_ltl (by omega) (by decide)]; exact a1
    have hb : hasB X own c q1 q2 = false := decide_eq_false (by omega)
    rw [if_pos b1, if_pos b1, hb]
    exact ⟨rfl, rfl⟩
  · have b1 : ¬ sI q1 < 1 := by rw [sI_ltl (by omega) (by decide)]; exact a1
    rw [if_neg b1, if_neg b1, show sI q1 - 1 = sI (q1 - 1) from sI_sub (b := 1) (by omega)]
    by_cases a2 : X < q1
    · have hb : hasB X own c q1 q2 = false := decide_eq_false (by omega)
      rw [if_pos (show sI X < sI q1 by rw [sI_lt (by omega) (by omega)]; exact a2), hb]
      refine ⟨?_, rfl⟩
      by_cases a3 : 12 < q1
      · rw [if_pos (show 12 < sI q1 by rw [sI_llt (by decide) (by omega)]; exact a3)]
      · rw [if_neg (show ¬ 12 < sI q1 by rw [sI_llt (by decide) (by omega)]; exact a3), mck_s (by omega) (by omega), sI_nn (by omega), Nat.add_zero, hout (q1 - 1) (by omega) (by omega), if_neg (sI_m1n (by omega))]
    · have hx := hin (q1 - 1) (by omega)
      obtain ⟨o1, o2, t, o3, o4, o5⟩ := hx
      rw [if_neg (show ¬ sI X < sI q1 by rw [sI_lt (by omega) (by omega)]; exact a2), if_neg (show ¬ 12 < sI q1 by rw [sI_llt (by decide) (by omega)]; omega), mck_s (by omega) (by omega), mck_s (by omega) (by omega), sI_nn (by omega), Nat.add_zero, o2, o4, mck_s (by omega) (by omega), sI_nn (by omega), o5]
      by_cases a3 : own (q1 - 1) = c
      · have b3 : sI (own (q1 - 1)) = sI c := by rw [a3]
        rw [if_pos b3, if_pos b3]
        by_cases a4 : q2 < 32
        · have b4 : ¬ 32 ≤ sI q2 := by rw [sI_lle (by decide) (by omega)]; omega
          have hb : hasB X own c q1 q2 = true := decide_eq_true (by omega)
          rw [if_neg b4, if_neg b4, hb]
          exact ⟨rfl, rfl⟩
        · have b4 : 32 ≤ sI q2 := by rw [sI_lle (by decide) (by omega)]; omega
          have hb : hasB X own c q1 q2 = false := decide_eq_false (by omega)
          rw [if_pos b4, if_pos b4, hb]
          exact ⟨rfl, rfl⟩
      · have b3 : ¬ sI (own (q1 - 1)) = sI c := by rw [sI_eq (by omega) (by omega)]; exact a3
        have hb : hasB X own c q1 q2 = false := decide_eq_false (by omega)
        rw [if_neg b3, if_neg b3, hb]
        exact ⟨rfl, rfl⟩
def k56 (i : Nat) : Int32 := 56 - 8 * sI i
theorem k56_1 : ∀ i, i < 8 → k56 i = sI (56 - 8 * i) ∧ k56 i + (-8) = k56 (i + 1) ∧ ¬ k56 i < 0 := by decide +kernel
theorem k56_8 : k56 8 < 0 := by decide +kernel
theorem k7_1 : ∀ i, i < 8 → (8 : Int32) * (7 - sI i) = sI (56 - 8 * i) := by decide +kernel
theorem wq_ex {o : Option (mwM × mwL)} {Q : mwM × mwL → Prop} (h : wq o Q) : ∃ A L, o = some (A, L) ∧ Q (A, L) := by
  obtain ⟨⟨A, L⟩, e, q⟩ := h
  exact ⟨A, L, e, q⟩
theorem st_read {fu X N E c q1 q2 : Nat} {own : Nat → Nat} {S : Nat → Nat} {A M : mwM} {Lc Lm : mwL} (hf : 20 ≤ fu) (hc : c < 6) (hQ : QuR A M) (hT : RTr A M N E) (hC : RCd A M S) (hO : ChO A M X own) (hD : DtR Lc Lm X) (h7 : A 275 7 = sI 0) (h1 : q1 < 256) (h2 : q2 < 256) (m0 : M 932 0 = sI 34) (m1 : M 932 1 = sI q1) (m2 : M 932 2 = sI q2) : SvQ X N E S A Lc M Lm (DX7_readDatum fu (sI c) (sI q1) (sI q2) A Lc) (DX19_serveRead fu (sI c) M Lm) := by
  obtain ⟨e1, e2⟩ := st_there (fu := fu) (Lc := Lc) (Lm := Lm) hO hc h1 h2 m1 m2
  unfold DX7_readDatum DX19_serveRead
  rw [e1, e2, mb3_s, mb3_s, mb2_id, mb2_id]
  cases hb : hasB X own c q1 q2 with
  | false =>
    rw [if_pos (show bI false = 0 from rfl), if_pos (show bI false = 0 from rfl)]
    exact st_no (x := 34) (w := 49) SvB_0 hQ hT hC h7 (by omega) (by omega) m0
  | true =>
    have hx := of_decide_eq_true hb
    have h12 := hO.1
    rw [if_neg (show ¬ bI true = 0 by decide), if_neg (show ¬ bI true = 0 by decide), show (0 : Int32).toNatClampNeg = 0 by decide, show (1 : Int32).toNatClampNeg = 1 by decide, show (2 : Int32).toNatClampNeg = 2 by decide, m1, m2, show sI q1 - 1 = sI (q1 - 1) from sI_sub (b := 1) (by omega), mck_s (by omega) (by omega), sI_nn (by omega)]
    have hd := hD (q1 - 1) (by omega) q2 hx.2.2.2
    generalize hw : Lc (293 + 36 * (q1 - 1) + 34) q2 = w at *
    have ev : DX13_value fu (964 + 53 * (q1 - 1)) (sI q2) M Lm = some (w, mset M (964 + 53 * (q1 - 1)) 0 0, Lm) := by
      unfold DX13_value fX13_value_b25
      simp only [mlet]
      rw [if_neg (by rw [sI_ltl (by omega) (by decide)]; omega), if_pos (by rw [sI_lel (by omega) (by decide)]; omega), mck_s (by omega) (by omega), sI_nn (by omega), ← hd]
    rw [ev, mb3_s, c_put7 h7 (by omega), mb2_s, c_put7 (n := 1) mset_s (by omega), mb2_s, c_put7 (n := 2) mset_s (by omega), mb2_s]
    simp only [mlet]
    rw [mset_n (show ¬ (932 = 933 ∧ 1 = 0) by omega), mset_n (show ¬ (932 = 964 + 53 * (q1 - 1) ∧ 1 = 0) by omega), m1, mset_n (show ¬ (932 = 933 ∧ 2 = 1) by omega), mset_n (show ¬ (932 = 933 ∧ 2 = 0) by omega), mset_n (show ¬ (932 = 964 + 53 * (q1 - 1) ∧ 2 = 0) by omega), m2]
    generalize hA1 : mset (mset (mset (mset (mset (mset A 282 0 98) 275 7 (sI (0 + 1))) 282 1 (sI q1)) 275 7 (sI (1 + 1))) 282 2 (sI q2)) 275 7 (sI (2 + 1)) = A1
    have f1 : ∀ a y, a ≠ 282 → ¬ (a = 275 ∧ y = 7) → A1 a y = A a y := fun a y u1 u2 => by
      rw [← hA1]
      simp (disch := omega) only [mset_n]
    have g1 : A1 275 7 = sI 3 ∧ A1 282 0 = sI 98 ∧ A1 282 1 = sI q1 ∧ A1 282 2 = sI q2 := by
      rw [← hA1]
      simp (disch := omega) only [mset_n, mset_s]
      exact ⟨by first | trivial | rfl, by first | trivial | rfl, by first | trivial | rfl, by first | trivial | rfl⟩
    generalize hM1 : mset (mset (mset (mset M (964 + 53 * (q1 - 1)) 0 0) 933 0 98) 933 1 (sI q1)) 933 2 (sI q2) = M1
    have f2 : ∀ a y, a ≠ 933 → (∀ x, x < 12 → ¬ (a = 964 + 53 * x ∧ y = 0)) → M1 a y = M a y := fun a y u1 u2 => by
      have := u2 (q1 - 1) (by omega)
      rw [← hM1]
      simp (disch := omega) only [mset_n]
    have g2 : M1 933 0 = sI 98 ∧ M1 933 1 = sI q1 ∧ M1 933 2 = sI q2 := by
      rw [← hM1]
      simp (disch := omega) only [mset_n, mset_s]
      exact ⟨rfl, trivial, trivial⟩
    -- the class's octets
    have cl : wq (fX7_readDatum_h41 fu (sI c) (sI q1) (sI q2) fu (56, A1, Lc)) (fun z => z.2 = Lc ∧ z.1 275 7 = sI 11 ∧ (∀ i, i < 8 → z.1 282 (3 + i) = sI (by64 w i)) ∧ (∀ i, i < 3 → z.1 282 i = A1 282 i) ∧ ∀ a y, a ≠ 282 → ¬ (a = 275 ∧ y = 7) → z.1 a y = A1 a y) := by
      refine wq_for (body := fun r z => fX7_readDatum_i41 fu (sI c) (sI q1) (sI q2) r z.1 z.2.1 z.2.2) (fun i (x : mwM) => (k56 i, x, Lc)) (fun i x => x 275 7 = sI (3 + i) ∧ (∀ j, j < i → x 282 (3 + j) = sI (by64 w j)) ∧ (∀ j, j < 3 → x 282 j = A1 282 j) ∧ ∀ a y, a ≠ 282 → ¬ (a = 275 ∧ y = 7) → x a y = A1 a y) 8 ?_ ?_ 8 0 A1 fu (by omega) (by omega) ⟨g1.1, fun j u => by omega, fun _ _ => rfl, fun _ _ _ _ => rfl⟩
      · intro i x r hi ⟨x1, x2, x3, x4⟩ ih
        show wq (fX7_readDatum_i41 fu (sI c) (sI q1) (sI q2) r (k56 i) x Lc) _
        obtain ⟨k1, k2, k3⟩ := k56_1 i hi
        unfold fX7_readDatum_i41
        rw [if_neg k3, show sI q1 - 1 = sI (q1 - 1) from sI_sub (b := 1) (by omega), mck_s (by omega) (by omega), mck_s hx.2.2.2 (by omega), sI_nn (by omega), sI_nn (by omega), hw, k2, k1, ush64 w _ (by omega), c_put7 x1 (by omega), mb2_s]
        simp only [mlet]
        refine ih _ ⟨by rw [mset_s]; rfl, fun j u => ?_, fun j u => ?_, fun a y u1 u2 => ?_⟩
        · rw [mset_n (by omega)]
          by_cases hq : j = i
          · rw [hq, mset_s]
            unfold by64
            rw [show 8 * (7 - i) = 56 - 8 * i by omega]
          · rw [mset_n (by omega)]; exact x2 j (by omega)
        · rw [mset_n (by omega), mset_n (by omega)]; exact x3 j u
        · rw [mset_n (by omega), mset_n (by omega)]; exact x4 a y u1 u2
      · intro x r ⟨x1, x2, x3, x4⟩
        show wq (fX7_readDatum_i41 fu (sI c) (sI q1) (sI q2) r (k56 8) x Lc) _
        unfold fX7_readDatum_i41
        rw [if_pos k56_8]
        exact wq_some ⟨rfl, x1, x2, x3, x4⟩
    have mo : wq (fX19_serveRead_h73 fu (sI c) fu (w, 0, M1, Lm)) (fun z => z.2 = Lm ∧ z.1 732 102 = sI 11 ∧ (∀ i, i < 8 → z.1 933 (3 + i) = sI (by64 w i)) ∧ (∀ i, i < 3 → z.1 933 i = M1 933 i) ∧ ∀ a y, a ≠ 933 → ¬ (a = 732 ∧ y = 102) → z.1 a y = M1 a y) := by
      refine wq_for (body := fun r z => fX19_serveRead_i73 fu (sI c) r z.1 z.2.1 z.2.2.1 z.2.2.2) (fun i (x : mwM) => (w, sI i, x, Lm)) (fun i x => (∀ j, j < i → x 933 (3 + j) = sI (by64 w j)) ∧ (∀ j, j < 3 → x 933 j = M1 933 j) ∧ ∀ a y, a ≠ 933 → x a y = M1 a y) 8 ?_ ?_ 8 0 M1 fu (by omega) (by omega) ⟨fun j u => by omega, fun _ _ => rfl, fun _ _ _ => rfl⟩
      · intro i x r hi ⟨x2, x3, x4⟩ ih
        show wq (fX19_serveRead_i73 fu (sI c) r w (sI i) x Lm) _
        unfold fX19_serveRead_i73
        rw [if_neg (by rw [sI_lle (by decide) (by omega)]; omega), show (3 : Int32) + sI i = sI (3 + i) from sI_lad, mck_s (by omega) (by omega), sI_nn (by omega), k7_1 i hi, ssh64 w _ (by omega)]
        simp only [mlet]
        rw [sI_1]
        refine ih _ ⟨fun j u => ?_, fun j u => ?_, fun a y u1 => ?_⟩
        · by_cases hq : j = i
          · rw [hq, mset_s]
            unfold by64
            rw [show 8 * (7 - i) = 56 - 8 * i by omega]
          · rw [mset_n (by omega)]; exact x2 j (by omega)
        · rw [mset_n (by omega)]; exact x3 j u
        · rw [mset_n (by omega)]; exact x4 a y u1
      · intro x r ⟨x2, x3, x4⟩
        show wq (fX19_serveRead_i73 fu (sI c) r w (sI 8) x Lm) _
        unfold fX19_serveRead_i73
        rw [if_pos (by decide)]
        simp only [mlet]
        refine wq_some ⟨rfl, by dsimp only; rw [mset_s]; rfl, fun i u => ?_, fun i u => ?_, fun a y u1 u2 => ?_⟩
        · dsimp only
          rw [mset_n (by omega)]; exact x2 i u
        · dsimp only
          rw [mset_n (by omega)]; exact x3 i u
        · dsimp only
          rw [mset_n u2]; exact x4 a y u1
    obtain ⟨A2, L2, ea, b1, b2, b3, b4, b5⟩ := wq_ex cl
    obtain ⟨M2, L3, em, d1, d2, d3, d4, d5⟩ := wq_ex mo
    dsimp only at b1 b2 b3 b4 b5 d1 d2 d3 d4 d5
    subst b1
    subst d1
    rw [ea, em]
    refine sv_end (A := A) (M := M) (sz := 11) (v := fun i => if i = 0 then 98 else if i = 1 then q1 else if i = 2 then q2 else by64 w (i - 3)) SvB_0 hQ hT hC (fun a y u1 u2 => by rw [b5 a y u1 u2]; exact f1 a y u1 u2) (fun a y u1 u2 u3 u4 => by rw [d5 a y u1 u2]; exact f2 a y u1 u4) (by omega) b2 d2 (fun i u => ?_)
    by_cases i0 : i = 0
    · subst i0
      rw [b4 0 (by omega), d4 0 (by omega), g1.2.1, g2.1]
      exact ⟨show 98 < 256 by decide, rfl, rfl⟩
    · by_cases i1 : i = 1
      · subst i1
        rw [b4 1 (by omega), d4 1 (by omega), g1.2.2.1, g2.2.1]
        exact ⟨h1, rfl, rfl⟩
      · by_cases i2 : i = 2
        · subst i2
          rw [b4 2 (by omega), d4 2 (by omega), g1.2.2.2, g2.2.2]
          exact ⟨h2, rfl, rfl⟩
        · rw [if_neg i0, if_neg i1, if_neg i2]
          have a1 := b3 (i - 3) (by omega)
          have a2 := d3 (i - 3) (by omega)
          rw [show 3 + (i - 3) = i by omega] at a1 a2
          exact ⟨by64_lt _ _, a1, a2⟩
theorem st_write {fu X N E c q1 q2 row : Nat} {own : Nat → Nat} {S : Nat → Nat} {A M : mwM} {Lc Lm : mwL} {o : Nat → Nat} (hf : 20 ≤ fu) (hc : c < 6) (hQ : QuR A M) (hT : RTr A M N E) (hC : RCd A M S) (hO : ChO A M X own) (h7 : A 275 7 = sI 0) (hrow : row < 275) (ho : ∀ i, i < 11 → A row i = sI (o i) ∧ M 932 i = sI (o i) ∧ o i < 256) (o0 : o 0 = 46) (o1 : o 1 = q1) (o2 : o 2 = q2) : SvQ X N E S A Lc M Lm (DX7_writeDatum fu (sI c) row 100 A Lc) (DX19_serveWrite fu (sI c) M Lm) := by
  have p0 := ho 0 (by omega)
  have p1 := ho 1 (by omega)
  have p2 := ho 2 (by omega)
  rw [o0] at p0
  rw [o1] at p1
  rw [o2] at p2
  obtain ⟨e1, e2⟩ := st_there (fu := fu) (Lc := Lc) (Lm := Lm) hO hc p1.2.2 p2.2.2 p1.2.1 p2.2.1
  obtain ⟨ses, w, rig, sdd, k1, k2, k3, k4, k5, k6, k7, k8, k9, k10, k11, k12⟩ := hQ.2 c hc
  unfold DX7_writeDatum DX19_serveWrite fX19_serveWrite_b17 fX19_serveWrite_b34
  simp only [mb2_id]
  rw [mck_s hc (by omega), mck_s hc (by omega), sI_nn (by omega), k6, k7, mck_s hc (by omega), mck_in (show vp_in 1 100 from sI_in (k := 1) (by omega) (by omega)), mck_in (show vp_in 2 100 from sI_in (k := 2) (by omega) (by omega)), show (1 : Int32).toNatClampNeg = 1 by decide, show (2 : Int32).toNatClampNeg = 2 by decide, p1.1, p2.1, e1, e2, mb3_s, mb3_s]
  cases hr : rig with
  | false =>
    rw [hr] at k6 k7
    rw [if_pos (show bI false = 0 from rfl), if_pos (show bI false = 0 from rfl), if_pos (show bI false = 0 from rfl)]
    exact st_no (x := 46) (w := 51) SvB_0 hQ hT hC h7 (by omega) (by omega) p0.2.1
  | true =>
    rw [hr] at k6 k7
    rw [if_neg (show ¬ bI true = 0 by decide), if_neg (show ¬ bI true = 0 by decide)]
    cases hb : hasB X own c q1 q2 with
    | false =>
      rw [if_pos (show bI false = 0 from rfl), if_pos (show bI false = 0 from rfl), mck_s hc (by omega), k7, if_neg (show ¬ bI true = 0 by decide)]
      exact st_no (x := 46) (w := 49) SvB_0 hQ hT hC h7 (by omega) (by omega) p0.2.1
    | true =>
      have hx := of_decide_eq_true hb
      have h12 := hO.1
      rw [if_neg (show ¬ bI true = 0 by decide), if_neg (show ¬ bI true = 0 by decide)]
      -- both numbers
      have both : ∀ (m i : Nat) (v : Int64) (f g : Nat), i + m = 8 → m < f → m < g → ∃ v', fX7_writeDatum_h47 fu (sI c) row 100 f (v, sI i, A, Lc) = some (mset (mset (mset (mset (mset (mset A 282 0 110) 275 7 (sI 1)) 282 1 (sI q1)) 275 7 (sI 2)) 282 2 (sI q2)) 275 7 (sI 3), mset Lc (293 + 36 * (q1 - 1) + 34) q2 v') ∧ fX19_serveWrite_h43 fu (sI c) g (v, sI i, M, Lm) = some (mset (mset (mset (mset M 933 0 110) 933 1 (sI q1)) 933 2 (sI q2)) 732 102 3, mset Lm (964 + 53 * (q1 - 1) + 21) q2 v') := by
        intro m
        induction m with
        | zero =>
          intro i v f g hi hf1 hg1
          obtain ⟨f', rfl⟩ : ∃ f', f = f' + 1 := ⟨f - 1, by omega⟩
          obtain ⟨g', rfl⟩ : ∃ g', g = g' + 1 := ⟨g - 1, by omega⟩
          have : i = 8 := by omega
          subst this
          refine ⟨v, ?_, ?_⟩
          · unfold fX7_writeDatum_h47
            rw [mloop_S]
            show fX7_writeDatum_i47 fu (sI c) row 100 _ v (sI 8) A Lc = _
            unfold fX7_writeDatum_i47
            rw [if_pos (by decide), mck_in (show vp_in 1 100 from sI_in (k := 1) (by omega) (by omega)), mck_in (show vp_in 2 100 from sI_in (k := 2) (by omega) (by omega)), show (1 : Int32).toNatClampNeg = 1 by decide, show (2 : Int32).toNatClampNeg = 2 by decide, p1.1, p2.1, show sI q1 - 1 = sI (q1 - 1) from sI_sub (b := 1) (by omega), mck_s (by omega) (by omega), mck_s hx.2.2.2 (by omega), sI_nn (by omega), sI_nn (by omega)]
            simp only [mlet]
            rw [c_put7 h7 (by omega), mb2_s, mck_in (show vp_in 1 100 from sI_in (k := 1) (by omega) (by omega)), mset_n (show ¬ (row = 275 ∧ 1 = 7) by omega), mset_n (show ¬ (row = 282 ∧ 1 = 0) by omega), p1.1, c_put7 (n := 1) mset_s (by omega), mb2_s, mck_in (show vp_in 2 100 from sI_in (k := 2) (by omega) (by omega)), mset_n (show ¬ (row = 275 ∧ 2 = 7) by omega), mset_n (show ¬ (row = 282 ∧ 2 = 1) by omega), mset_n (show ¬ (row = 275 ∧ 2 = 7) by omega), mset_n (show ¬ (row = 282 ∧ 2 = 0) by omega), p2.1, c_put7 (n := 2) mset_s (by omega), mb2_s]
          · unfold fX19_serveWrite_h43
            rw [mloop_S]
            show fX19_serveWrite_i43 fu (sI c) _ v (sI 8) M Lm = _
            unfold fX19_serveWrite_i43 DX13_put
            rw [if_pos (by decide), show (0 : Int32).toNatClampNeg = 0 by decide, show (1 : Int32).toNatClampNeg = 1 by decide, show (2 : Int32).toNatClampNeg = 2 by decide, p1.2.1, p2.2.1, show sI q1 - 1 = sI (q1 - 1) from sI_sub (b := 1) (by omega), mck_s (by omega) (by omega), mck_s hx.2.2.2 (by omega), sI_nn (by omega), sI_nn (by omega)]
            simp only [mlet]
            rw [mb2_s]
            rw [mset_n (show ¬ (932 = 933 ∧ 1 = 0) by omega), p1.2.1, mset_n (show ¬ (932 = 933 ∧ 2 = 1) by omega), mset_n (show ¬ (932 = 933 ∧ 2 = 0) by omega), p2.2.1]
        | succ m ih =>
          intro i v f g hi hf1 hg1
          obtain ⟨f', rfl⟩ : ∃ f', f = f' + 1 := ⟨f - 1, by omega⟩
          obtain ⟨g', rfl⟩ : ∃ g', g = g' + 1 := ⟨g - 1, by omega⟩
          have pi := ho (3 + i) (by omega)
          obtain ⟨v', r1, r2⟩ := ih (i + 1) (v * 256 + (sI (o (3 + i))).toInt64) f' g' (by omega) (by omega) (by omega)
          refine ⟨v', ?_, ?_⟩
          · unfold fX7_writeDatum_h47
            rw [mloop_S]
            show fX7_writeDatum_i47 fu (sI c) row 100 (fX7_writeDatum_h47 fu (sI c) row 100 f') v (sI i) A Lc = _
            unfold fX7_writeDatum_i47
            rw [if_neg (by rw [sI_lle (by decide) (by omega)]; omega), show (3 : Int32) + sI i = sI (3 + i) from sI_lad, mck_s (by omega) (by omega), sI_nn (by omega), pi.1]
            simp only [mlet]
            rw [shl_or _ _ pi.2.2, sI_1]
            exact r1
          · unfold fX19_serveWrite_h43
            rw [mloop_S]
            show fX19_serveWrite_i43 fu (sI c) (fX19_serveWrite_h43 fu (sI c) g') v (sI i) M Lm = _
            unfold fX19_serveWrite_i43
            rw [if_neg (by rw [sI_lle (by decide) (by omega)]; omega), show (3 : Int32) + sI i = sI (3 + i) from sI_lad, mck_s (by omega) (by omega), sI_nn (by omega), pi.2.1]
            simp only [mlet]
            rw [sI_1]
            exact r2
      obtain ⟨v', r1, r2⟩ := both 8 0 0 fu fu (by omega) (by omega) (by omega)
      have r1' : fX7_writeDatum_h47 fu (sI c) row 100 fu (0, 0, A, Lc) = _ := r1
      have r2' : fX19_serveWrite_h43 fu (sI c) fu (0, 0, M, Lm) = _ := r2
      rw [r1', r2']
      refine sv_end (A := A) (M := M) (sz := 3) (v := fun i => if i = 0 then 110 else if i = 1 then q1 else q2) ⟨fun _ _ _ => rfl, fun _ _ _ _ => rfl, Or.inr ⟨q1 - 1, q2, v', by omega, hx.2.2.2, rfl, rfl⟩⟩ hQ hT hC (fun a y u1 u2 => ?_) (fun a y u1 u2 u3 u4 => ?_) (by omega) mset_s (by rw [mset_s]; rfl) (fun i u => ?_)
      · simp (disch := omega) only [mset_n]
      · simp (disch := omega) only [mset_n]
      · rcases (show i = 0 ∨ i = 1 ∨ i = 2 by omega) with rfl | rfl | rfl
        · simp (disch := omega) only [mset_n, mset_s]
          exact ⟨show 110 < 256 by decide, rfl, rfl⟩
        · simp (disch := omega) only [mset_n, mset_s]
          exact ⟨p1.2.2, rfl, rfl⟩
        · simp (disch := omega) only [mset_n, mset_s]
          exact ⟨p2.2.2, rfl, rfl⟩
