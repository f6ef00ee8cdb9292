/-! a frame of the transfer has come: both sides -/
theorem DtF_s {Lc Lc' Lm Lm' : mwL} {X : Nat} (h : ∀ x, x < X → Lc (293 + 36 * x + 34) = Lm (964 + 53 * x + 21)) (hs : svL X Lc Lc' Lm Lm') : ∀ x, x < X → Lc' (293 + 36 * x + 34) = Lm' (964 + 53 * x + 21) := by
  rcases hs with ⟨e1, e2⟩ | ⟨x, dd, w, x1, x2, e1, e2⟩
  · rw [e1, e2]; exact h
  · rw [e1, e2]
    intro z hz
    apply funext
    intro k
    by_cases e : z = x ∧ k = dd
    · rw [e.1, e.2, mset_s, mset_s]
    · rw [mset_n (by omega), mset_n (by omega)]
      exact congrFun (h z hz) k
theorem maN_1 {c sz m : Nat} {n : Nat → Nat → Nat} : maN c sz n 1 m = if m = n 0 0 + 1 then c else n 1 m := by
  unfold maN
  rw [mset_n (by omega), mset_n (by omega), mset_n (by omega), mset_n (by omega)]
  by_cases e : m = n 0 0 + 1
  · rw [if_pos e, e, mset_s]
  · rw [if_neg e, mset_n (by omega)]
theorem maN_2 {c sz m : Nat} {n : Nat → Nat → Nat} (h : m ≤ n 0 0) : maN c sz n 2 m = n 2 m := by
  unfold maN
  rw [mset_n (by omega), mset_n (by omega), mset_n (by omega), mset_n (by omega), mset_n (by omega)]
theorem maN_00 {c sz : Nat} {n : Nat → Nat → Nat} : maN c sz n 0 0 = n 0 0 + 1 := by
  unfold maN
  rw [mset_s]
theorem maN_03 {c sz : Nat} {n : Nat → Nat → Nat} : maN c sz n 0 3 = n 0 3 := by
  unfold maN
  rw [mset_n (by omega), mset_n (by omega), mset_n (by omega), mset_n (by omega), mset_n (by omega)]
def ArQ (A M : mwM) (Lc Lm : mwL) (C S F W R X t E : Nat) (d : Nat → Nat → Nat) (tu : Nat → Bool) (g : Nat → Nat → Nat) (own Sb bd : Nat → Nat) (τ : Nat) (oc : Option (mwM × mwL)) (z : mwM × mwL) : Prop :=
  ∃ (A' : mwM) (Lc' : mwL) (p' : PB) (o' : Nat → Nat → Nat) (e' : Nat → Nat), oc = some (A', Lc') ∧ TkB A' z.1 Lc' z.2 S F W R X t E d tu g own Sb bd ∧ TrB A' z.1 z.2 C Sb p' o' e' ∧ p'.1 0 3 = τ ∧ trA A A' ∧ trM M z.1 ∧ trC Lc Lc' ∧ trL Lm z.2
theorem st_arrive {fu c C S F W R X t E : Nat} {tt : Bool} {a1 a2 : Int32} {d : Nat → Nat → Nat} {tu : Nat → Bool} {g : Nat → Nat → Nat} {own Sb bd : Nat → Nat} {A M : mwM} {Lc Lm : mwL} {p : PB} {o : Nat → Nat → Nat} {e : Nat → Nat} (hfu : 1700 ≤ fu) (hc : c < C) (hC6 : C ≤ 6) (hE : E < 800000000) (hB : TkB A M Lc Lm S F W R X t E d tu g own Sb bd) (hTr : TrB A M Lm C Sb p o e) : wq (DX19_arrive fu (sI (1536 + 2 * c + (if tt = true then 1 else 0))) M Lm) (ArQ A M Lc Lm C S F W R X t E d tu g own Sb bd (p.1 0 3) (fX1_takeOfTransfer_b40 fu a1 a2 (sI c) (bI tt) a1 A Lc)) := by
  obtain ⟨hv, hC, hM, hN, hT, hC1, h17, h3, hAn, hQu, hK16, hG⟩ := hTr
  obtain ⟨n0, n3, n1, n2, nb, nT⟩ := rch_n (c := c) (tt := tt) hv hT
  have hK := hv.1.1
  obtain ⟨⟨r, A1, L1⟩, z1, er, eL, tC, tV, fA⟩ := c_reach (fu := fu) (c := c) (tt := tt) (L := Lc) hfu (by omega) hv hC
  dsimp only at er eL tC fA
  subst er eL
  have hRTr : RTr A M W E := hB.2.2.2.2.2.1
  have hRCd : RCd A M Sb := hB.2.2.2.2.2.2.1
  have hO : ChO A M X own := hB.2.1
  have hD : ∀ x, x < X → L1 (293 + 36 * x + 34) = Lm (964 + 53 * x + 21) := fun x hx => by
    obtain ⟨_, _, _, _, _, q⟩ := hB.2.2.2.1 x hx
    exact q
  have e3 : (3 : Int32).toNatClampNeg = 3 := rfl
  have trA1 : trA A A1 := fun a y u1 u2 u3 u4 u5 u6 u7 => fA a y (by omega)
  -- what holds behind the reach
  have base : ∀ (M' : mwM) (L' : mwL) (e' : Nat → Nat), TfM M' L' (p.1 0 3) (rchP c tt p).1.1 (rchP c tt p).1.2 o e' → TfN M' (rchP c tt p).1.1 (rchP c tt p).1.2 e' → aFr M M' → rFl Lm L' → TkB A1 M' L1 L' S F W R X t E d tu g own Sb bd ∧ TrB A1 M' L' C Sb (rchP c tt p).1 o e' ∧ trM M M' ∧ trL Lm L' := by
    intro M' L' e' k1 k2 k3 k4
    have tM : trM M M' := fun a y u1 u2 u3 u4 u5 u6 u7 u8 u9 => k3 a y (by omega)
    have tL : trL Lm L' := fun a y u1 u2 => k4 a y (by omega)
    have D' : ∀ x, x < X → L1 (293 + 36 * x + 34) = L' (964 + 53 * x + 21) := fun x hx => by rw [show L' (964 + 53 * x + 21) = Lm (964 + 53 * x + 21) from funext (fun y => k4 _ _ (by omega))]; exact hD x hx
    have T' : RTr A1 M' W E := RTr_fr hRTr (fun a y u1 u2 => fA a y (by omega)) (fun a y u1 u2 u3 => k3 a y (by omega))
    have R' : RCd A1 M' Sb := RCd_fr hRCd (fun a y u1 u2 => fA a y (by omega)) (fun a y u => k3 a y (by omega))
    refine ⟨TkB_tr hB trA1 tM (fun _ _ _ => rfl) tL T' R' D', ⟨tV, tC, by rw [n3]; exact k1, k2, by rw [n3]; exact nT, fun m m1 m2 => by rw [n1]; exact hC1 m m1 (by omega), ?_, ?_, ?_, ?_, KnC_f hK16 (by omega) (fun a y u1 u2 => fA a y (by omega)), rch_g hG⟩, tM, tL⟩
    · rw [fA _ _ (by omega), k3 _ _ (by omega)]; exact h17
    · rw [fA _ _ (by omega), k3 _ _ (by omega)]; exact h3
    · rcases hAn with ⟨q1, q2⟩ | ⟨m, m1, m2, m3, m4, m5⟩
      · exact Or.inl ⟨by rw [fA _ _ (by omega)]; exact q1, by rw [k3 _ _ (by omega)]; exact q2⟩
      · exact Or.inr ⟨m, m1, by omega, by rw [fA _ _ (by omega)]; exact m3, by rw [k3 _ _ (by omega), n2]; exact m4, fun j hj => by rw [n2] at hj; rw [k3 _ _ (by omega)]; exact m5 j hj⟩
    · exact QuR_fr hQu (fun a y u => fA a y (by omega)) (fun a y u => k3 a y (by omega))
  have eX : fX1_takeOfTransfer_b40 fu a1 a2 (sI c) (bI tt) a1 A L1 = (if sI (rchP c tt p).2 = 0 then some (A1, L1) else mb3 (DX9_isQuestion fu (sI (rchP c tt p).2) A1 L1) (fun r10 M8 L9 => (if r10 = 0 then (if sI c = (M8 3 17) then some (mset (mset (mset M8 3 18 (sI (rchP c tt p).2)) 3 17 (-1)) 292 3 (mset (mset M8 3 18 (sI (rchP c tt p).2)) 3 17 (-1) 292 3 + 1), L9) else some (M8, L9)) else mck (sI (rchP c tt p).2) 101 (mck (sI (rchP c tt p).2) 101 (mb2 (DX7_makeReply fu (sI c) ((162 + (sI (rchP c tt p).2).toNatClampNeg)) 100 (M8 158 (sI (rchP c tt p).2).toNatClampNeg) M8 L9) (fun M21 L22 => mb2 (DX9_make fu (sI c) 0 282 20 (M21 275 7) M21 L22) (fun M23 L24 => some (M23, L24)))))))) := by
    unfold fX1_takeOfTransfer_b40
    rw [if_pos rfl, z1, mb3_s]
    rfl
  rw [eX]
  refine m_arrive hfu (by omega) hv hM hN (fun M' L' e' k1 k2 k3 k4 k5 => ?_) (fun M' L' e' m k1 k2 k3 k4 k5 k6 k7 k8 k9 k10 => ?_) (fun M' L' e' m k1 k2 k3 k4 k5 k6 k7 k8 k9 k10 => ?_)
  · obtain ⟨b1, b2, b3, b4⟩ := base M' L' e' k1 k2 k3 k4
    exact ⟨A1, L1, (rchP c tt p).1, o, e', by rw [k5, if_pos (show sI 0 = 0 from rfl)], b1, b2, n3, trA1, b3, fun _ _ _ => rfl, b4⟩
  · -- a question
    obtain ⟨b1, b2, b3, b4⟩ := base M' L' e' k1 k2 k3 k4
    obtain ⟨_, _, _, _, _, c6, c7, c8, c9, c10, c11, c12⟩ := b2
    rw [← k5]
    obtain ⟨_, _, s2, _⟩ := hv.2.1 m k6 k7
    have s1 := (hv.2.1 m k6 k7).2.1
    have hrow : ∀ i, i < p.1 2 m → A1 (162 + m) i = sI (o m i) ∧ M' 932 i = sI (o m i) ∧ o m i < 256 := fun i hi => by
      obtain ⟨_, _, _, _, _, q⟩ := tC.2.1 m k6 (by omega)
      rw [n2] at q
      obtain ⟨q2, _⟩ := hM.2.2.1 m k6 k7
      exact ⟨q i hi, k9 i hi, (q2 i hi).2⟩
    have h158 : A1 158 m = sI (p.1 2 m) := by
      obtain ⟨_, _, q, _⟩ := tC.2.1 m k6 (by omega)
      rw [n2] at q
      exact q
    have sv := st_serve (fu := fu) (c := c) (row := 162 + m) (n := p.1 2 m) (N := W) (E := E) (X := X) (own := own) (S := Sb) (A := A1) (M := M') (Lc := L1) (Lm := L') (o := o m) (by omega) (by omega) (by omega) c10 b1.2.2.2.2.2.1 b1.2.2.2.2.2.2.1 c11 b1.2.1 (fun x hx dd _ => by
      obtain ⟨_, _, _, _, _, q⟩ := b1.2.2.2.1 x hx
      exact congrFun q dd) (by omega) (by omega) s1 (by omega) hrow
    obtain ⟨A2, Lc2, M2, Lm2, sz, v, w1, w2, ⟨w3, w4, w5⟩, w6, w7, w8, w9, w10, w11, w12, w13⟩ := sv
    have isq := c_isQuestion (fu := fu) (L := L1) tC (by omega) k6 (by omega)
    rw [nb, k10] at isq
    have m0 : ¬ sI m = 0 := by rw [show (0 : Int32) = sI 0 from rfl, sI_eq (by omega) (by omega)]; omega
    rw [if_neg m0, isq, mb3_s, bI_t, if_neg (show ¬ (1 : Int32) = 0 by decide), mck_s (show m < 101 by omega) (by omega), mck_s (show m < 101 by omega) (by omega), sI_nn (show m < 2000000000 by omega), h158, w1, mb2_s, w2, mb2_s, mck_s (show m < 101 by omega) (by omega), w11]
    have D2 : ∀ x, x < X → Lc2 (293 + 36 * x + 34) = Lm2 (964 + 53 * x + 21) := DtF_s (fun x hx => by
      obtain ⟨_, _, _, _, _, q⟩ := b1.2.2.2.1 x hx
      exact q) w5
    have lc2 : trC L1 Lc2 := fun a y u => by
      rcases w5 with ⟨e1, e2⟩ | ⟨x, dd, w, x1, x2, e1, e2⟩
      · rw [e1]
      · rw [e1, mset_n (by omega)]
    have lm2 : trL L' Lm2 := fun a y u1 u2 => by
      rcases w5 with ⟨e1, e2⟩ | ⟨x, dd, w, x1, x2, e1, e2⟩
      · rw [e2]
      · rw [e2, mset_n (by omega)]
    have lm2' : ∀ a y, 869 ≤ a → a ≤ 901 → Lm2 a y = L' a y := fun a y u1 u2 => by
      rcases w5 with ⟨e1, e2⟩ | ⟨x, dd, w, x1, x2, e1, e2⟩
      · rw [e2]
      · rw [e2, mset_n (by omega)]
    have tC2 : TfC A2 (rchP c tt p).1.1 (rchP c tt p).1.2 o := TfC_w tC (by omega) (fun a y u1 u2 => w3 a y (by omega))
    have tM2 : TfM M2 Lm2 ((rchP c tt p).1.1 0 3) (rchP c tt p).1.1 (rchP c tt p).1.2 o e' := by
      rw [n3]
      exact TfM_fr k1 (fun a y u1 u2 u3 u4 => w4 a y (by omega) (fun x hx => by omega)) lm2'
    have tN2 : TfN M2 (rchP c tt p).1.1 (rchP c tt p).1.2 e' := TfN_fr k2 (fun a y u => w4 a y (by omega) (fun x hx => by omega))
    have e927 : M2 927 m = sI c := by rw [(tN2.2.1 m k6 (by omega)).1, n1, k8]
    have sA : ∀ a y, ¬ (154 ≤ a ∧ a ≤ 273) → ¬ (275 ≤ a ∧ a ≤ 282) → ¬ (137 ≤ a ∧ a ≤ 138) → ¬ (a = 139 ∧ y = 3) → ¬ (146 ≤ a ∧ a ≤ 150) → A2 a y = A a y := fun a y u1 u2 u3 u4 u5 => by rw [w3 a y (by omega)]; exact fA a y (by omega)
    have sM : ∀ a y, ¬ (a = 732 ∧ (y = 91 ∨ y = 95 ∨ y = 102 ∨ y = 108)) → ¬ (869 ≤ a ∧ a ≤ 920) → ¬ (929 ≤ a ∧ a ≤ 938 ∧ a ≠ 931) → a ≠ 854 → a ≠ 858 → a ≠ 859 → ¬ (863 ≤ a ∧ a ≤ 867) → ¬ (964 ≤ a ∧ (a - 964) % 53 = 0 ∧ y = 0) → M2 a y = M a y := fun a y u1 u2 u3 u4 u5 u6 u7 u8 => by rw [w4 a y (by omega) (fun x hx => by omega)]; exact k3 a y (by omega)
    rw [e927]
    -- the message goes, or there is no room
    have fin : ∀ (A3 M3 : mwM) (p' : PB) (o' : Nat → Nat → Nat), TfV p'.1 p'.2 → TfC A3 p'.1 p'.2 o' → TfM M3 Lm2 (p'.1 0 3) p'.1 p'.2 o' e' → TfN M3 p'.1 p'.2 e' → TfT p'.1 (p'.1 0 3) → p'.1 0 3 = p.1 0 3 → p.1 0 0 ≤ p'.1 0 0 → (∀ m, 1 ≤ m → m ≤ p'.1 0 0 → p'.1 1 m < C) → (∀ m, m ≤ p.1 0 0 → p'.1 2 m = p.1 2 m) → (∀ m, m ≤ p.1 0 0 → ∀ j, o' m j = o m j) → (∀ a y, ¬ (154 ≤ a ∧ a ≤ 273) → A3 a y = A2 a y) → (∀ a y, ¬ (a = 732 ∧ y = 88) → ¬ (869 ≤ a ∧ a ≤ 871) → ¬ (a = 927 ∨ a = 928) → M3 a y = M2 a y) → (∀ f, p'.1 0 2 ≤ f → f < p'.1 0 1 → p'.2 1 f = false) → ArQ A M L1 Lm C S F W R X t E d tu g own Sb bd (p.1 0 3) (some (A3, Lc2)) (M3, Lm2) := by
      intro A3 M3 p' o' q1 q2 q3 q4 q5 q6 q7 q8 q9 q10 q11 q12 q13
      have tA : trA A A3 := fun a y u1 u2 u3 u4 u5 u6 u7 => by rw [q11 a y u1]; exact sA a y u1 u2 u3 u4 u5
      have tM : trM M M3 := fun a y u1 u2 u3 u4 u5 u6 u7 u8 u9 => by rw [q12 a y (by omega) (by omega) (by omega)]; exact sM a y (by omega) (by omega) (by omega) (by omega) (by omega) (by omega) (by omega) (by omega)
      have tL : trL Lm Lm2 := fun a y u1 u2 => by rw [lm2 a y u1 u2]; exact b4 a y u1 u2
      refine ⟨A3, Lc2, p', o', e', rfl, TkB_tr hB tA tM lc2 tL (RTr_fr w7 (fun a y u1 u2 => q11 a y (by omega)) (fun a y u1 u2 u3 => q12 a y (by omega) (by omega) (by omega))) (RCd_fr w8 (fun a y u1 u2 => q11 a y (by omega)) (fun a y u => q12 a y (by omega) (by omega) (by omega))) D2, ⟨q1, q2, q3, q4, q5, q8, ?_, ?_, ?_, QuR_fr w6 (fun a y u => q11 a y (by omega)) (fun a y u => q12 a y (by omega) (by omega) (by omega)), KnC_f c11 (by omega) (fun a y u1 u2 => by rw [q11 a y (by omega)]; exact w3 a y (by omega)), q13⟩, q6, tA, tM, lc2, tL⟩
      · dsimp only
        rw [q11 _ _ (by omega), sA _ _ (by omega) (by omega) (by omega) (by omega) (by omega), q12 _ _ (by omega) (by omega) (by omega), sM _ _ (by omega) (by omega) (by omega) (by omega) (by omega) (by omega) (by omega) (by omega)]; exact h17
      · dsimp only
        rw [q11 _ _ (by omega), sA _ _ (by omega) (by omega) (by omega) (by omega) (by omega), q12 _ _ (by omega) (by omega) (by omega), sM _ _ (by omega) (by omega) (by omega) (by omega) (by omega) (by omega) (by omega) (by omega)]; exact h3
      · rcases hAn with ⟨y1, y2⟩ | ⟨x, m1, m2, m3, m4, m5⟩
        · exact Or.inl ⟨by rw [q11 _ _ (by omega), sA _ _ (by omega) (by omega) (by omega) (by omega) (by omega)]; exact y1, by dsimp only; rw [q12 _ _ (by omega) (by omega) (by omega), sM _ _ (by omega) (by omega) (by omega) (by omega) (by omega) (by omega) (by omega) (by omega)]; exact y2⟩
        · exact Or.inr ⟨x, m1, by omega, by rw [q11 _ _ (by omega), sA _ _ (by omega) (by omega) (by omega) (by omega) (by omega)]; exact m3, by dsimp only; rw [q12 _ _ (by omega) (by omega) (by omega), sM _ _ (by omega) (by omega) (by omega) (by omega) (by omega) (by omega) (by omega) (by omega), q9 x m2]; exact m4, fun j hj => by
            rw [q9 x m2] at hj
            dsimp only
            rw [q12 _ _ (by omega) (by omega) (by omega), sM _ _ (by omega) (by omega) (by omega) (by omega) (by omega) (by omega) (by omega) (by omega), q10 x m2]
            exact m5 j hj⟩
    by_cases full : p.1 0 0 = 100
    · have f1 : A2 154 5 = sI 100 := by rw [tC2.1.1, n0, full]
      rw [c_make9n f1, mb2_s, m_say19n (sz := 0) tM2 (show sz ≤ 100 by omega) w12 (by rw [n0]; exact full)]
      refine wq_eq rfl (fin A2 (mset M2 869 0 0) (rchP c tt p).1 o tV tC2 (TfM_fr tM2 (fun a y u1 u2 u3 u4 => by rw [mset_n (by omega)]) (fun _ _ _ _ => rfl)) (TfN_fr tN2 (fun a y u => by rw [mset_n (by omega)])) (by rw [n3]; exact nT) n3 (by omega) (fun m m1 m2 => by rw [n1]; exact hC1 m m1 (by omega)) (fun m _ => n2 m) (fun _ _ _ => rfl) (fun _ _ _ => rfl) (fun a y u1 u2 u3 => by rw [mset_n (by omega)]) c12)
    · have mk := c_make9 (fu := fu) (c := c) (a3 := 282) (n3 := 20) (sz := sz) (a := false) (L := Lc2) (v := v) (by omega) tV tC2 (by omega) (by omega) (by omega) (by omega) (fun i hi => (w13 i hi).2.1)
      have sy := m_say19 (fu := fu) (c := c) (sz := sz) (a := false) (M := M2) (L := Lm2) (v := v) (by omega) tV tM2 tN2 (by omega) w12 (fun i hi => ⟨(w13 i hi).2.2, (w13 i hi).1⟩) (by omega)
      obtain ⟨⟨A3, L3⟩, x1, x2, x3, x4⟩ := mk
      obtain ⟨⟨M3, L4⟩, y1, y2, y3, y4, y5⟩ := sy
      dsimp only at x2 x3 x4 y2 y3 y4 y5
      subst x2 y2
      have x1' : DX9_make fu (sI c) 0 282 20 (sI sz) A2 L3 = some (A3, L3) := x1
      have y1' : DX19_say fu (sI c) 0 M2 L4 = some (M3, L4) := y1
      rw [x1', mb2_s, y1', mb2_s]
      have hc6 : c < 6 := by omega
      refine wq_eq rfl (fin A3 M3 (maN c sz (rchP c tt p).1.1, maB false (rchP c tt p).1.1 (rchP c tt p).1.2) (maO v (rchP c tt p).1.1 o) (V_ma tV (by omega) hc6 (by omega)) x3 ?_ y4 (T_ma (by rw [n3]; exact nT)) ?_ ?_ (fun m m1 m2 => ?_) (fun m m1 => ?_) (fun m m1 j => ?_) (fun a y u => x4 a y (by omega)) (fun a y u1 u2 u3 => y5 a y (by omega)) (fun f u1 u2 => ?_))
      · dsimp only
        rw [maN_03]
        exact y3
      · dsimp only
        rw [maN_03]
        exact n3
      · dsimp only
        rw [maN_00]
        omega
      · dsimp only at m2 ⊢
        rw [maN_00] at m2
        rw [maN_1]
        by_cases e1 : m = (rchP c tt p).1.1 0 0 + 1
        · rw [if_pos e1]; exact hc
        · rw [if_neg e1, n1]; exact hC1 m m1 (by omega)
      · dsimp only
        rw [maN_2 (by omega)]
        exact n2 m
      · unfold maO
        rw [if_neg (by omega)]
      · dsimp only at u1 u2 ⊢
        rw [ma_o (by omega) (by omega)] at u1 u2
        unfold maB
        rw [mset_n (by omega), mset_n (by omega)]
        exact c12 f u1 u2
  · -- an answer
    obtain ⟨b1, b2, b3, b4⟩ := base M' L' e' k1 k2 k3 k4
    obtain ⟨d1, d2, d3, d4, d5, c6, c7, c8, c9, c10, c11, c12⟩ := b2
    rw [← k5]
    have s2 := (hv.2.1 m k6 k7).2.2.1
    have isq := c_isQuestion (fu := fu) (L := L1) tC (by omega) k6 (by omega)
    rw [nb, k10] at isq
    have m0 : ¬ sI m = 0 := by rw [show (0 : Int32) = sI 0 from rfl, sI_eq (by omega) (by omega)]; omega
    rw [if_neg m0, isq, mb3_s, bI_f, if_pos (show (0 : Int32) = 0 from rfl), c7]
    by_cases aw : M' 732 97 = sI c
    · rw [if_pos aw, if_pos aw.symm]
      generalize hM1 : mset M' 732 98 (sI (p.1 2 m)) = M1
      have tM1 : ∀ a y, ¬ (a = 732 ∧ y = 98) → M1 a y = M' a y := fun a y u => by rw [← hM1, mset_n u]
      have loop : ∀ (r j q : Nat) (B : mwM), j + r = p.1 2 m → r < q → (∀ x, x < j → B 931 x = sI (o m x)) → (∀ a y, a ≠ 931 → B a y = M1 a y) → ∃ B', fX19_arrive_h255 fu (sI (1536 + 2 * c + (if tt = true then 1 else 0))) q (sI (p.1 2 m), sI j, B, L') = some (mset (mset B' 939 3 (B' 939 3 + 1)) 732 97 (-1), L') ∧ (∀ x, x < p.1 2 m → B' 931 x = sI (o m x)) ∧ ∀ a y, a ≠ 931 → B' a y = M1 a y := by
        intro r
        induction r with
        | zero =>
          intro j q B hj hq h1 h2
          obtain ⟨q', rfl⟩ : ∃ y, q = y + 1 := ⟨q - 1, by omega⟩
          refine ⟨B, ?_, fun x hx => h1 x (by omega), h2⟩
          show fX19_arrive_i255 fu _ (fX19_arrive_h255 fu _ q') (sI (p.1 2 m)) (sI j) B L' = _
          unfold fX19_arrive_i255 fX19_arrive_b297
          rw [if_pos (by rw [sI_le (by omega) (by omega)]; omega), mlet_e, mlet_e, e3]
        | succ r ih =>
          intro j q B hj hq h1 h2
          obtain ⟨q', rfl⟩ : ∃ y, q = y + 1 := ⟨q - 1, by omega⟩
          have un : fX19_arrive_h255 fu (sI (1536 + 2 * c + (if tt = true then 1 else 0))) (q' + 1) (sI (p.1 2 m), sI j, B, L') = fX19_arrive_i255 fu (sI (1536 + 2 * c + (if tt = true then 1 else 0))) (fX19_arrive_h255 fu (sI (1536 + 2 * c + (if tt = true then 1 else 0))) q') (sI (p.1 2 m)) (sI j) B L' := rfl
          rw [un]
          unfold fX19_arrive_i255
          rw [if_neg (by rw [sI_le (by omega) (by omega)]; omega), mck_s (by omega) (by omega), mck_s (by omega) (by omega), mlet_e, mlet_e, sI_nn (by omega), h2 932 j (by omega), tM1 932 j (by omega), k9 j (by omega), sI_1]
          refine ih (j + 1) q' _ (by omega) (by omega) (fun x hx => ?_) (fun a y u => by rw [mset_n (by omega)]; exact h2 a y u)
          by_cases ex : x = j
          · rw [ex, mset_s]
          · rw [mset_n (by omega)]; exact h1 x (by omega)
      obtain ⟨B', l1, l2, l3⟩ := loop (p.1 2 m) 0 fu M1 (by omega) (by omega) (fun x hx => by omega) (fun _ _ _ => rfl)
      have l1' : fX19_arrive_h255 fu (sI (1536 + 2 * c + (if tt = true then 1 else 0))) fu (sI (p.1 2 m), 0, M1, L') = _ := l1
      rw [l1']
      generalize hM3 : mset (mset B' 939 3 (B' 939 3 + 1)) 732 97 (-1) = M3
      have tM3 : ∀ a y, a ≠ 931 → ¬ (a = 732 ∧ (y = 97 ∨ y = 98)) → ¬ (a = 939 ∧ y = 3) → M3 a y = M' a y := fun a y u1 u2 u3 => by rw [← hM3, mset_n (by omega), mset_n (by omega), l3 a y u1]; exact tM1 a y (by omega)
      generalize hA3 : mset (mset (mset A1 3 18 (sI m)) 3 17 (-1)) 292 3 (mset (mset A1 3 18 (sI m)) 3 17 (-1) 292 3 + 1) = A3
      have tA3 : ∀ a y, ¬ (a = 3 ∧ (y = 17 ∨ y = 18)) → ¬ (a = 292 ∧ y = 3) → A3 a y = A1 a y := fun a y u1 u2 => by rw [← hA3, mset_n (by omega), mset_n (by omega), mset_n (by omega)]
      have gA : trA A A3 := fun a y u1 u2 u3 u4 u5 u6 u7 => by rw [tA3 a y u6 u7]; exact trA1 a y u1 u2 u3 u4 u5 u6 u7
      have gM : trM M M3 := fun a y u1 u2 u3 u4 u5 u6 u7 u8 u9 => by rw [tM3 a y (by omega) (by omega) u4]; exact b3 a y u1 u2 u3 u4 u5 u6 u7 u8 u9
      refine wq_eq rfl ⟨A3, L1, (rchP c tt p).1, o, e', rfl, TkB_tr hB gA gM (fun _ _ _ => rfl) b4 (RTr_fr b1.2.2.2.2.2.1 (fun a y u1 u2 => tA3 a y (by omega) (by omega)) (fun a y u1 u2 u3 => tM3 a y (by omega) (by omega) (by omega))) (RCd_fr b1.2.2.2.2.2.2.1 (fun a y u1 u2 => tA3 a y (by omega) (by omega)) (fun a y u => tM3 a y (by omega) (by omega) (by omega))) (fun x hx => by
        obtain ⟨_, _, _, _, _, q⟩ := b1.2.2.2.1 x hx
        exact q), ⟨tV, TfC_w tC (by omega) (fun a y u1 u2 => tA3 a y (by omega) (by omega)), TfM_fr d3 (fun a y u1 u2 u3 u4 => tM3 a y (by omega) (by omega) (by omega)) (fun _ _ _ _ => rfl), TfN_fr k2 (fun a y u => tM3 a y (by omega) (by omega) (by omega)), d5, c6, ?_, ?_, Or.inr ⟨m, k6, by omega, ?_, ?_, fun j hj => ?_⟩, QuR_fr c10 (fun a y u => tA3 a y (by omega) (by omega)) (fun a y u => tM3 a y (by omega) (by omega) (by omega)), KnC_f c11 (by omega) (fun a y u1 u2 => tA3 a y (by omega) (by omega)), c12⟩, n3, gA, gM, fun _ _ _ => rfl, b4⟩
      · dsimp only
        rw [← hA3, ← hM3, mset_n (by omega), mset_s, mset_s]
      · dsimp only
        rw [← hA3, ← hM3, mset_s, mset_n (by omega), mset_n (by omega), mset_n (by omega), mset_s, l3 _ _ (by omega), tM1 _ _ (by omega), c8]
      · rw [← hA3, mset_n (by omega), mset_n (by omega), mset_s]
      · dsimp only
        rw [n2, ← hM3, mset_n (by omega), mset_n (by omega), l3 _ _ (by omega), ← hM1, mset_s]
      · dsimp only
        rw [n2] at hj
        rw [← hM3, mset_n (by omega), mset_n (by omega)]
        exact l2 j hj
    · rw [if_neg aw, if_neg (fun w => aw w.symm)]
      exact wq_eq rfl ⟨A1, L1, (rchP c tt p).1, o, e', rfl, b1, ⟨d1, d2, d3, d4, d5, c6, c7, c8, c9, c10, c11, c12⟩, n3, trA1, b3, fun _ _ _ => rfl, b4⟩
/-! what a node has just taken -/
theorem TkE_f {A A' M M' : mwM} {n k : Nat} (hn : n < 7) (h : TkE A M n k) (hA : ∀ a y, 47 ≤ a → a ≤ 60 → A' a y = A a y) (hM : ∀ a y, 839 ≤ a → a ≤ 844 → M' a y = M a y) : TkE A' M' n k := by
  obtain ⟨h', o, h1, h2, h3, h4, h5, h6, h7, h8, h9, h10, h11, h12⟩ := h
  exact ⟨h', o, EaR_f h1 (fun y => hA _ y (by omega) (by omega)), OcR_f h2 (fun y => hA _ y (by omega) (by omega)), h3, h4, h5, h6, h7, h8, by rw [hM _ _ (by omega) (by omega)]; exact h9, by rw [hM _ _ (by omega) (by omega)]; exact h10, by rw [hM _ _ (by omega) (by omega)]; exact h11, fun i u => by rw [hM _ _ (by omega) (by omega)]; exact h12 i u⟩
theorem FrE_f {A A' M M' : mwM} {N mk : Nat} {tc tc' : Nat → Nat} (h : FrE A M N tc tc' mk) (hA : ∀ a y, (a = 20 ∧ y = 12) ∨ (47 ≤ a ∧ a ≤ 60) → A' a y = A a y) (hM : ∀ a y, 839 ≤ a → a ≤ 844 → M' a y = M a y) : FrE A' M' N tc tc' mk := by
  obtain ⟨h1, h2⟩ := h
  refine ⟨by rw [hA _ _ (by omega)]; exact h1, fun n hn => ?_⟩
  rcases h2 n hn with ⟨q1, q2, q3, k, q4, q5, q6, q7⟩ | q
  · exact Or.inl ⟨q1, q2, q3, k, q4, q5, by rw [hM _ _ (by omega) (by omega)]; exact q6, TkE_f hn q7 (fun a y u1 u2 => hA a y (by omega)) hM⟩
  · exact Or.inr q
theorem m_arrive0 {fu id C : Nat} {M : mwM} {L : mwL} {p : PB} {e : Nat → Nat} (hfu : 1700 ≤ fu) (hv : TfV p.1 p.2) (hN : TfN M p.1 p.2 e) (hC : ∀ m, 1 ≤ m → m ≤ p.1 0 0 → p.1 1 m < C) (hid : 1536 + 2 * C ≤ id) (hid2 : id < 2000000000) : DX19_arrive fu (sI id) M L = some (M, L) := by
  obtain ⟨k1, k2, k3, k4, k5, k6, k7, k8⟩ := hN
  have hF := Tf_F hv
  have hle := hv.1.2.1
  have hl := ob_len (n := p.1) (b := p.2)
  unfold DX19_arrive
  have key : ∀ (r k q : Nat), k + r = (obL p.1 p.2).length → r < q → fX19_arrive_h2 fu (sI id) q (sI k, M, L) = some (M, L) := by
    intro r
    induction r with
    | zero =>
      intro k q hk hq
      obtain ⟨q', rfl⟩ : ∃ y, q = y + 1 := ⟨q - 1, by omega⟩
      show fX19_arrive_i2 fu (sI id) (fX19_arrive_h2 fu (sI id) q') (sI k) M L = _
      unfold fX19_arrive_i2 fX19_arrive_b26
      rw [k6, if_pos (by rw [sI_le (by omega) (by omega)]; omega), if_pos (by rw [show k = (obL p.1 p.2).length from by omega])]
    | succ r ih =>
      intro k q hk hq
      obtain ⟨q', rfl⟩ : ∃ y, q = y + 1 := ⟨q - 1, by omega⟩
      obtain ⟨m1, m2⟩ := k7 k (by omega)
      have hm : (obL p.1 p.2)[k]'(by omega) ∈ obL p.1 p.2 := List.getElem_mem _
      obtain ⟨f1, f2⟩ := ob_mem.mp hm
      obtain ⟨_, g2, g3, _⟩ := hv.2.2.2 _ (show (obL p.1 p.2)[k]'(by omega) < p.1 0 1 by omega)
      have hc := hC _ g2 g3
      have hi : idO p.1 p.2 ((obL p.1 p.2)[k]'(by omega)) < id := by
        unfold idO
        split <;> omega
      show fX19_arrive_i2 fu (sI id) (fX19_arrive_h2 fu (sI id) q') (sI k) M L = _
      unfold fX19_arrive_i2
      rw [k6, if_neg (by rw [sI_le (by omega) (by omega)]; omega), mck_s (by omega) (by omega), sI_nn (by omega), m2, if_neg (by rw [sI_eq (by omega) (by omega)]; omega), mlet_e, sI_1]
      exact ih (k + 1) q' (by omega) (by omega)
  exact key (obL p.1 p.2).length 0 fu (by omega) (by omega)
theorem mk_bit : ∀ m, m < 128 → ∀ n, n < 7 → ((sI m >>> (sI n &&& 31)) &&& 1 = sI (m / 2 ^ n % 2)) := by decide +kernel
theorem c_kind {fu k : Nat} {h : Nat → Nat} {A : mwM} {L : mwL} (hE : EaR A k h) (h1 : h 11 < 2) (h2 : h 12 < 2) (h3 : h 13 < 2) : DX5_kind fu k A L = some (sI (kdH h), A, L) := by
  have e11 := hE 11 (by omega) (by omega)
  have e12 := hE 12 (by omega) (by omega)
  have e13 := hE 13 (by omega) (by omega)
  unfold DX5_kind fX5_kind_b29 kdH kdE
  rw [e11, e12, e13]
  by_cases c1 : h 13 = 1
  · rw [if_pos (by rw [c1]; rfl), if_pos c1, sI_adl]
  · rw [if_neg (by rw [show (1 : Int32) = sI 1 from rfl, sI_eq (by omega) (by omega)]; exact c1), if_neg c1]
    by_cases c2 : h 11 = 1
    · rw [if_pos (by rw [c2]; rfl), if_pos c2, sI_adl]
    · rw [if_neg (by rw [show (1 : Int32) = sI 1 from rfl, sI_eq (by omega) (by omega)]; exact c2), if_neg c2, show (0 : Int32) = sI 0 from rfl, sI_add]
/-- the reference reads the octets -/
theorem m_oct84 {fu n N i T k0 id co : Nat} {v2 : Int32} {tn ov : Nat → Nat} {e f r : Nat} {M : mwM} {L : mwL} (rr : (Int32 × mwM × mwL) → Option (mwM × mwL)) (hfu : 5000 ≤ fu) (h1 : M 821 1 = sI N) (hN : N ≤ 7) (hn : n < N) (h22 : M 821 22 = sI T) (hT : T ≤ 3600) (h839 : ∀ k, k < T → M 839 k = sI (tn k) ∧ tn k < 7) (hk : k0 < T) (hk1 : tn k0 = n) (hk2 : cnt (fun k => decide (tn k = n)) k0 = i) (h840 : M 840 k0 = sI id) (h841 : M 841 k0 = sI (kdE e f r)) (h842 : M 842 k0 = sI co) (he : e < 2) (hf : f < 2) (hr : r < 2) (hco : co < 16) (h8 : ocE f r co = 8) (hov : ∀ j, j < 8 → M 844 (64 * k0 + j) = bt8 (ov j) ∧ ov j < 256) : ∃ M', fX19_lookAt_h84 fu (sI n) rr fu (v2, sI i, sI id, 0, M, L) = fX19_lookAt_i84 fu (sI n) rr (fun _ => none) v2 (sI i) (sI id) 8 M' L ∧ (∀ j, j < 8 → M' 926 j = sI (ov j)) ∧ ∀ a y, a ≠ 926 → ¬ (a = 821 ∧ y = 0) → M' a y = M a y := by
  obtain ⟨Tt, hTt⟩ : ∃ Tt : mwM → Option (mwM × mwL), ∀ B, Tt B = fX19_lookAt_i84 fu (sI n) rr (fun _ => none) v2 (sI i) (sI id) 8 B L := ⟨_, fun _ => rfl⟩
  have key : ∀ (s j q : Nat) (B : mwM), j + s = 8 → s < q → (∀ x, x < j → B 926 x = sI (ov x)) → (∀ a y, a ≠ 926 → ¬ (a = 821 ∧ y = 0) → B a y = M a y) → ∃ M', fX19_lookAt_h84 fu (sI n) rr q (v2, sI i, sI id, sI j, B, L) = Tt M' ∧ (∀ j, j < 8 → M' 926 j = sI (ov j)) ∧ ∀ a y, a ≠ 926 → ¬ (a = 821 ∧ y = 0) → M' a y = M a y := by
    intro s
    induction s with
    | zero =>
      intro j q B hj hq g1 g2
      obtain ⟨q', rfl⟩ : ∃ y, q = y + 1 := ⟨q - 1, by omega⟩
      refine ⟨B, ?_, fun x hx => g1 x (by omega), g2⟩
      have ej : j = 8 := by omega
      subst ej
      rw [hTt]
      show fX19_lookAt_i84 fu (sI n) rr (fX19_lookAt_h84 fu (sI n) rr q') v2 (sI i) (sI id) 8 B L = _
      unfold fX19_lookAt_i84
      rw [if_pos (show (8 : Int32) ≤ 8 by decide), if_pos (show (8 : Int32) ≤ 8 by decide)]
    | succ s ih =>
      intro j q B hj hq g1 g2
      obtain ⟨q', rfl⟩ : ∃ y, q = y + 1 := ⟨q - 1, by omega⟩
      obtain ⟨o1, o2⟩ := hov j (by omega)
      have un : fX19_lookAt_h84 fu (sI n) rr (q' + 1) (v2, sI i, sI id, sI j, B, L) = fX19_lookAt_i84 fu (sI n) rr (fX19_lookAt_h84 fu (sI n) rr q') v2 (sI i) (sI id) (sI j) B L := rfl
      have t3 := (m_taken3 (fu := fu) (id := id) (kd := 0) (L := L) (M := B) hfu (by rw [g2 _ _ (by omega) (by omega)]; exact h1) hN hn (by rw [g2 _ _ (by omega) (by omega)]; exact h22) hT (fun k hk => by rw [g2 _ _ (by omega) (by omega)]; exact h839 k hk) hk hk1 hk2 (by rw [g2 _ _ (by omega) (by omega)]; exact h840) (by rw [g2 _ _ (by omega) (by omega)]; exact h841) (by rw [g2 _ _ (by omega) (by omega)]; exact h842) he hf hr hco).2.2.2 j (by omega) (by omega) (ov j) (by rw [g2 _ _ (by omega) (by omega)]; exact o1) o2
      rw [un]
      unfold fX19_lookAt_i84
      rw [if_neg (by rw [sI_lle (by decide) (by omega)]; omega), t3, mb3_s, mck_s (by omega) (by omega), mlet_e, mlet_e, sI_nn (by omega), sI_1]
      refine ih (j + 1) q' _ (by omega) (by omega) (fun x hx => ?_) (fun a y u1 u2 => by rw [mset_n (by omega), mset_n u2]; exact g2 a y u1 u2)
      by_cases ex : x = j
      · rw [ex, mset_s]
      · rw [mset_n (by omega), mset_n (by omega)]
        exact g1 x (by omega)
  obtain ⟨M', z1, z2, z3⟩ := key 8 0 fu M (by omega) (by omega) (fun x hx => by omega) (fun _ _ _ _ => rfl)
  rw [hTt] at z1
  exact ⟨M', z1, z2, z3⟩
/-! one node looks at what it has taken -/
abbrev lkA (A A' : mwM) : Prop := ∀ a y, ¬ (86 ≤ a ∧ a ≤ 91) → a ≠ 96 → ¬ (137 ≤ a ∧ a ≤ 138) → ¬ (a = 139 ∧ (y = 3 ∨ y = 5)) → ¬ (144 ≤ a ∧ a ≤ 150) → ¬ (154 ≤ a ∧ a ≤ 273) → ¬ (275 ≤ a ∧ a ≤ 282) → a ≠ 290 → ¬ (a = 292 ∧ (y = 1 ∨ y = 2 ∨ y = 3)) → ¬ (a = 3 ∧ (y = 17 ∨ y = 18)) → ¬ (293 ≤ a ∧ (((a - 293) % 36 = 0 ∧ y = 11) ∨ (a - 293) % 36 = 35)) → A' a y = A a y
abbrev lkM (M M' : mwM) : Prop := ∀ a y, ¬ (a = 732 ∧ (y = 88 ∨ y = 91 ∨ y = 95 ∨ y = 97 ∨ y = 98 ∨ y = 102 ∨ y = 108)) → ¬ (a = 821 ∧ y = 0) → a ≠ 752 → a ≠ 753 → a ≠ 773 → a ≠ 854 → a ≠ 858 → a ≠ 859 → ¬ (863 ≤ a ∧ a ≤ 920) → a ≠ 924 → ¬ (926 ≤ a ∧ a ≤ 938) → ¬ (a = 939 ∧ (y = 1 ∨ y = 2 ∨ y = 3)) → ¬ (964 ≤ a ∧ (a - 964) % 53 = 0 ∧ y = 0) → M' a y = M a y
abbrev lkC (L L' : mwL) : Prop := ∀ a y, a ≠ 291 → ¬ (293 ≤ a ∧ (a - 293) % 36 = 34 ∧ y < 32) → L' a y = L a y
abbrev lkL (L L' : mwL) : Prop := ∀ a y, a ≠ 774 → a ≠ 778 → a ≠ 786 → ¬ (a = 881 ∨ a = 889 ∨ a = 897) → ¬ (964 ≤ a ∧ (a - 964) % 53 = 21 ∧ y < 32) → L' a y = L a y
theorem TkB_M {A M M' : mwM} {Lc Lm : mwL} {S F W R X t E : Nat} {d : Nat → Nat → Nat} {tu : Nat → Bool} {g : Nat → Nat → Nat} {own Sb bd : Nat → Nat} (h : TkB A M Lc Lm S F W R X t E d tu g own Sb bd) (hM : ∀ a y, a ≠ 924 → a ≠ 926 → ¬ (a = 821 ∧ y = 0) → M' a y = M a y) : TkB A M' Lc Lm S F W R X t E d tu g own Sb bd := by
  obtain ⟨kS, kO, kR, kQ, kW, kT, kC, kK, kN, k1, k2, k16, k83, kt⟩ := h
  refine ⟨FrS_f kS (fun _ _ _ => rfl) (fun a y u => hM a y (by omega) (by omega) (by omega)), ChO_f kO (fun _ _ => rfl) (fun a y u => hM a y (by omega) (by omega) (by omega)), RdR_f kR (fun _ _ _ => rfl) (fun a y u => hM a y (by omega) (by omega) (by omega)) (fun _ => rfl) (fun _ => rfl), fun x hx => QdR_f (kQ x hx) (fun _ _ _ => rfl) (fun a y u => hM a y (by omega) (by omega) (by omega)) (fun _ => rfl) (fun _ => rfl), WtR_f kW (fun _ _ _ => rfl) (fun a y u => hM a y (by omega) (by omega) (by omega)) (fun _ => rfl), RTr_fr kT (fun _ _ _ _ => rfl) (fun a y u1 u2 u3 => hM a y (by omega) (by omega) (by omega)), RCd_fr kC (fun _ _ _ _ => rfl) (fun a y u => hM a y (by omega) (by omega) (by omega)), kK, kN, ?_, ?_, k16, ?_, kt⟩
  · rw [hM _ _ (by omega) (by omega) (by omega)]; exact k1
  · rw [hM _ _ (by omega) (by omega) (by omega)]; exact k2
  · rw [hM _ _ (by omega) (by omega) (by omega)]; exact k83
theorem TrB_f {A A' M M' : mwM} {Lm Lm' : mwL} {C : Nat} {Sb : Nat → Nat} {p : PB} {o : Nat → Nat → Nat} {e : Nat → Nat} (h : TrB A M Lm C Sb p o e) (hA : ∀ a y, (a = 3 ∧ (y = 17 ∨ y = 18)) ∨ (101 ≤ a ∧ a ≤ 136) ∨ (154 ≤ a ∧ a ≤ 273) ∨ (275 ≤ a ∧ a ≤ 280) ∨ (a = 292 ∧ y = 3) → A' a y = A a y) (hM : ∀ a y, (a = 732 ∧ (y = 88 ∨ (91 ≤ y ∧ y ≤ 98) ∨ y = 108)) ∨ (869 ≤ a ∧ a ≤ 901) ∨ (927 ≤ a ∧ a ≤ 931) ∨ (934 ≤ a ∧ a ≤ 938) ∨ (a = 939 ∧ y = 3) → M' a y = M a y) (hL : ∀ a y, 869 ≤ a → a ≤ 901 → Lm' a y = Lm a y) : TrB A' M' Lm' C Sb p o e := by
  obtain ⟨hv, hC, hM1, hN, hT, hC1, h17, h3, hAn, hQu, hK16, hG⟩ := h
  refine ⟨hv, TfC_w hC hv.1.1 (fun a y u1 u2 => hA a y (by omega)), TfM_fr hM1 (fun a y u1 u2 u3 u4 => hM a y (by omega)) hL, TfN_fr hN (fun a y u => hM a y (by omega)), hT, hC1, ?_, ?_, ?_, QuR_fr hQu (fun a y u => hA a y (by omega)) (fun a y u => hM a y (by omega)), KnC_f hK16 (by omega) (fun a y u1 u2 => hA a y (by omega)), hG⟩
  · rw [hA _ _ (by omega), hM _ _ (by omega)]; exact h17
  · rw [hA _ _ (by omega), hM _ _ (by omega)]; exact h3
  · rcases hAn with ⟨y1, y2⟩ | ⟨x, m1, m2, m3, m4, m5⟩
    · exact Or.inl ⟨by rw [hA _ _ (by omega)]; exact y1, by rw [hM _ _ (by omega)]; exact y2⟩
    · exact Or.inr ⟨x, m1, m2, by rw [hA _ _ (by omega)]; exact m3, by rw [hM _ _ (by omega)]; exact m4, fun j hj => by rw [hM _ _ (by omega)]; exact m5 j hj⟩
theorem TkB_bd {A M : mwM} {Lc Lm : mwL} {S F W R X t E : Nat} {d : Nat → Nat → Nat} {tu : Nat → Bool} {g : Nat → Nat → Nat} {own Sb bd bd' : Nat → Nat} (h : TkB A M Lc Lm S F W R X t E d tu g own Sb bd) (hb : ∀ x, x < 6 → bd x ≤ bd' x) : TkB A M Lc Lm S F W R X t E d tu g own Sb bd' := by
  obtain ⟨kS, kO, kR, kQ, kW, kT, kC, kK, kN, k1, k2, k16, k83, kt⟩ := h
  exact ⟨kS, kO, kR, kQ, kW, kT, kC, kK, fun f hf c hc => by
    obtain ⟨cn, n1, n2, n3⟩ := kN f hf c hc
    exact ⟨cn, Nat.le_trans n1 (hb c hc), n2, n3⟩, k1, k2, k16, k83, kt⟩
/-- what holds while the nodes look, those below n have looked -/
def LkZ (A M : mwM) (Lc Lm : mwL) (C S F W R X t E : Nat) (d : Nat → Nat → Nat) (tu : Nat → Bool) (g : Nat → Nat → Nat) (own Sb bd : Nat → Nat) (p : PB) (o : Nat → Nat → Nat) (e ec tc tc' fl : Nat → Nat) (mk n : Nat) : Prop :=
  TkB A M Lc Lm S F W R X t E d tu g own Sb bd ∧ TrB A M Lm C Sb p o e ∧ BusE A M (C + 1) t ec tc' fl ∧ FrE A M (C + 1) tc tc' mk ∧ M 732 19 = sI C ∧ A 3 13 = sI C ∧ ∀ k, k ≤ C → M 924 k = sI (if k < n then tc' k else tc k)
/-- what a node's look comes to -/
def LnQ (A M : mwM) (Lc Lm : mwL) (C S F W R X t E : Nat) (d : Nat → Nat → Nat) (tu : Nat → Bool) (g : Nat → Nat → Nat) (own Sb bd : Nat → Nat) (τ : Nat) (ec tc tc' fl : Nat → Nat) (mk n : Nat) (rrC : (Int32 × mwM × mwL) → Option (mwM × mwL)) (oc om : Option (mwM × mwL)) : Prop :=
  ∃ (A' : mwM) (Lc' : mwL) (M' : mwM) (Lm' : mwL) (E' : Nat) (p' : PB) (o' : Nat → Nat → Nat) (e' : Nat → Nat), oc = rrC (sI (n + 1), A', Lc') ∧ om = some (M', Lm') ∧ LkZ A' M' Lc' Lm' C S F W R X t E' d tu g own Sb (fun x => if x = n then bd x + 64 else bd x) p' o' e' ec tc tc' fl mk (n + 1) ∧ E ≤ E' ∧ E' ≤ E + 30 ∧ p'.1 0 3 = τ ∧ lkA A A' ∧ lkM M M' ∧ lkC Lc Lc' ∧ lkL Lm Lm'
theorem st_lookn {fu n C S F W R X t E mk : Nat} {d : Nat → Nat → Nat} {tu : Nat → Bool} {g : Nat → Nat → Nat} {own Sb bd : Nat → Nat} {A M : mwM} {Lc Lm : mwL} {p : PB} {o : Nat → Nat → Nat} {e ec tc tc' fl : Nat → Nat} (rrC : (Int32 × mwM × mwL) → Option (mwM × mwL)) (hfu : 5000 ≤ fu) (hn : n ≤ C) (hC6 : C ≤ 6) (hmk : mk < 128) (hE : E < 800000000) (hbd : ∀ c, c < 6 → bd c < 1000000000) (hZ : LkZ A M Lc Lm C S F W R X t E d tu g own Sb bd p o e ec tc tc' fl mk n) : LnQ A M Lc Lm C S F W R X t E d tu g own Sb bd (p.1 0 3) ec tc tc' fl mk n rrC (fX1_takeFrames_i2 fu rrC (sI n) A Lc) (DX19_lookAt fu (sI n) M Lm) := by
  obtain ⟨hTk, hTr, hBu, hFr, h19, h13, h924⟩ := hZ
  obtain ⟨Fb, ow, idb, ocb, dn, asl, hBR⟩ := id hBu
  obtain ⟨⟨b1, ⟨b2, b3, b4⟩, b5, b6, b7, b8, b9, b10, b11, b12, ⟨tn, b13, b14⟩, b15⟩, _⟩ := hBR
  have bdle : ∀ x, x < 6 → bd x ≤ (fun x => if x = n then bd x + 64 else bd x) x := fun x _ => by dsimp only; split <;> omega
  have tc0 := (b15 0 (by omega)).2
  have tc1 := (b15 1 (by omega)).2
  have tc2 := (b15 2 (by omega)).2
  have tc3 := (b15 3 (by omega)).2
  have tc4 := (b15 4 (by omega)).2
  have tc5 := (b15 5 (by omega)).2
  have tc6 := (b15 6 (by omega)).2
  have hT36 : s7 tc' ≤ 3600 := by unfold s7; omega
  have hTn : TnR M (s7 tc') tc' := ⟨tn, b13, b14⟩
  have many := m_takenC (fu := fu) (n := n) (L := Lm) hfu b3 (by omega) (show n < C + 1 by omega) b12 hT36 hTn
  have htcn : tc' n < 2000 := by
    have := (b15 n (by omega)).2
    omega
  obtain ⟨f20, fr⟩ := id hFr
  -- nothing more for this node
  have endM : ∀ (q : Nat) (B : mwM) (Q : mwL), B 924 n = sI (tc' n) → fX19_lookAt_h11 fu (sI n) (q + 1) (sI (tc' n), B, Q) = some (B, Q) := fun q B Q hB => by
    show fX19_lookAt_i11 fu (sI n) (fX19_lookAt_h11 fu (sI n) q) (sI (tc' n)) B Q = _
    unfold fX19_lookAt_i11
    rw [mck_s (by omega) (by omega), sI_nn (by omega), hB, if_pos (by rw [sI_le (by omega) (by omega)]; omega)]
  unfold DX19_lookAt fX1_takeFrames_i2 fX1_takeFrames_b107
  rw [many, mb3_s, h13, if_neg (show ¬ sI C < sI n by rw [sI_lt (by omega) (by omega)]; omega), mck_s (show n < 7 by omega) (by omega), f20, mk_bit mk hmk n (by omega)]
  have h924n := h924 n hn
  rw [if_neg (by omega)] at h924n
  obtain ⟨q0, hq0⟩ : ∃ q, fu = q + 1 + 1 := ⟨fu - 2, by omega⟩
  -- the class goes on, and the reference's look is over
  have over : ∀ (B : mwM), B 924 n = sI (tc' n) → (∀ a y, ¬ (a = 821 ∧ y = 0) → ¬ (a = 924 ∧ y = n) → a ≠ 926 → B a y = M a y) → LnQ A M Lc Lm C S F W R X t E d tu g own Sb bd (p.1 0 3) ec tc tc' fl mk n rrC (rrC (sI (n + 1), A, Lc)) (some (B, Lm)) := by
    intro B hB fB
    refine ⟨A, Lc, B, Lm, E, p, o, e, rfl, rfl, ⟨TkB_bd (TkB_M hTk (fun a y u1 u2 u3 => fB a y u3 (by omega) u2)) bdle, TrB_f hTr (fun _ _ _ => rfl) (fun a y u => fB a y (by omega) (by omega) (by omega)) (fun _ _ _ _ => rfl), BusE_fr hBu (fun _ _ _ _ => rfl) (fun a y u1 u2 u3 => fB a y u3 (by omega) (by omega)), FrE_f hFr (fun _ _ _ => rfl) (fun a y u1 u2 => fB a y (by omega) (by omega) (by omega)), by rw [fB _ _ (by omega) (by omega) (by omega)]; exact h19, h13, fun k hk => ?_⟩, by omega, by omega, rfl, fun _ _ _ _ _ _ _ _ _ _ _ _ _ => rfl, fun a y u1 u2 u3 u4 u5 u6 u7 u8 u9 u10 u11 u12 u13 => fB a y u2 (by omega) (by omega), fun _ _ _ _ => rfl, fun _ _ _ _ _ _ _ => rfl⟩
    by_cases ek : k = n
    · rw [ek, if_pos (by omega)]; exact hB
    · rw [fB _ _ (by omega) (by omega) (by omega)]
      have := h924 k hk
      by_cases lt : k < n
      · rw [if_pos lt] at this; rw [if_pos (by omega)]; exact this
      · rw [if_neg lt] at this; rw [if_neg (by omega)]; exact this
  rcases fr n (by omega) with ⟨g1, g2, g3, k0, g4, g5, g6, h, ov, e1, e2, e3, e4, e5, e6, e7, e8, e9, e10, e11, e12⟩ | ⟨g1, g2⟩
  · -- it has taken a frame
    rw [if_neg (by rw [g1]; decide), sI_nn (show n < 2000000000 by omega), c_kind e1 e3 e4 e5, mb3_s]
    have hk0 : tn k0 = n := by
      obtain ⟨t1, t2⟩ := b13 k0 g5
      exact sI_inj (by omega) (by omega) (by rw [← t1, g6])
    have hle : ∀ m, m < 7 → tc m ≤ tc' m := fun m hm => by
      rcases fr m hm with ⟨_, _, z, _⟩ | ⟨_, z⟩ <;> omega
    have hcnt : cnt (fun k => decide (tn k = n)) k0 = tc n := by
      refine tn_pre (tc := tc) (tc' := tc') (fun k hk => (b13 k hk).2) b14 ?_ (fun m hm => ?_) n (by omega) k0 g4 g5 hk0 g3
      · have z0 := hle 0 (by omega)
        have z1 := hle 1 (by omega)
        have z2 := hle 2 (by omega)
        have z3 := hle 3 (by omega)
        have z4 := hle 4 (by omega)
        have z5 := hle 5 (by omega)
        have z6 := hle 6 (by omega)
        unfold s7
        omega
      · rcases fr m hm with ⟨_, _, z, x, x1, x2, x3, _⟩ | ⟨_, z⟩
        · refine Or.inl ⟨z, x, x1, x2, ?_⟩
          obtain ⟨t1, t2⟩ := b13 x x2
          exact sI_inj (by omega) (by omega) (by rw [← t1, x3])
        · exact Or.inr z
    generalize hP0 : mset (mset M 821 0 0) 924 n (sI (tc n + 1)) = P0
    have tP0 : ∀ a y, ¬ (a = 821 ∧ y = 0) → ¬ (a = 924 ∧ y = n) → P0 a y = M a y := fun a y u1 u2 => by rw [← hP0, mset_n u2, mset_n u1]
    have p924 : P0 924 n = sI (tc' n) := by rw [← hP0, mset_s, g3]
    have tk3 : ∀ B : mwM, (∀ a y, ¬ (a = 821 ∧ y = 0) → B a y = P0 a y) → _ := fun B hB => m_taken3 (fu := fu) (n := n) (N := C + 1) (i := tc n) (T := s7 tc') (k0 := k0) (id := h 10) (kd := 0) (co := h 14) (tn := tn) (e := h 12) (f := h 13) (r := h 11) (M := B) (L := Lm) hfu (by rw [hB _ _ (by omega), tP0 _ _ (by omega) (by omega)]; exact b3) (by omega) (by omega) (by rw [hB _ _ (by omega), tP0 _ _ (by omega) (by omega)]; exact b12) hT36 (fun k hk => by rw [hB _ _ (by omega), tP0 _ _ (by omega) (by omega)]; exact b13 k hk) g5 hk0 hcnt (by rw [hB _ _ (by omega), tP0 _ _ (by omega) (by omega)]; exact e9) (by rw [hB _ _ (by omega), tP0 _ _ (by omega) (by omega)]; exact e10) (by rw [hB _ _ (by omega), tP0 _ _ (by omega) (by omega)]; exact e11) e4 e5 e3 e6
    generalize hP1 : mset P0 821 0 0 = P1
    have tP1 : ∀ a y, ¬ (a = 821 ∧ y = 0) → P1 a y = P0 a y := fun a y u => by rw [← hP1, mset_n u]
    have p1 : mset P1 821 0 0 = P1 := by rw [← hP1, mset_ii]
    have q1 := tk3 P0 (fun _ _ _ => rfl)
    have q2 := tk3 P1 tP1
    rw [hP1] at q1
    rw [p1] at q2
    have b924 : P1 924 n = sI (tc' n) := by rw [tP1 _ _ (by omega)]; exact p924
    have fP1 : ∀ a y, ¬ (a = 821 ∧ y = 0) → ¬ (a = 924 ∧ y = n) → a ≠ 926 → P1 a y = M a y := fun a y u1 u2 _ => by rw [tP1 a y u1]; exact tP0 a y u1 u2
    have st : fX19_lookAt_h11 fu (sI n) fu (sI (tc' n), mset M 821 0 0, Lm) = (if sI (kdE (h 12) (h 13) (h 11)) = 0 then (if sI (ocE (h 13) (h 11) (h 14)) = 8 then fX19_lookAt_h84 fu (sI n) (fX19_lookAt_h11 fu (sI n) (q0 + 1)) fu (sI (tc' n), sI (tc n), sI (h 10), 0, P1, Lm) else fX19_lookAt_h11 fu (sI n) (q0 + 1) (sI (tc' n), P1, Lm)) else fX19_lookAt_h11 fu (sI n) (q0 + 1) (sI (tc' n), P1, Lm)) := by
      have un : fX19_lookAt_h11 fu (sI n) fu (sI (tc' n), mset M 821 0 0, Lm) = fX19_lookAt_i11 fu (sI n) (fX19_lookAt_h11 fu (sI n) (q0 + 1)) (sI (tc' n)) (mset M 821 0 0) Lm := by
        conv => lhs; arg 3; rw [hq0]
        rfl
      rw [un]
      unfold fX19_lookAt_i11
      rw [mck_s (show n < 7 by omega) (by omega), sI_nn (show n < 2000000000 by omega), mset_n (show ¬ (924 = 821 ∧ n = 0) by omega), h924n, if_neg (show ¬ sI (tc' n) ≤ sI (tc n) by rw [sI_le (by omega) (by omega)]; omega), mck_s (show n < 7 by omega) (by omega), mlet_e, mck_s (show n < 7 by omega) (by omega), mck_s (show n < 7 by omega) (by omega), mlet_e, sI_1, hP0, q1.1, mb3_s, q2.2.1, mb3_s, q2.2.2.1, mb3_s]
    rw [st]
    have ekd : kdH h = kdE (h 12) (h 13) (h 11) := rfl
    rw [ekd]
    have hkb : kdE (h 12) (h 13) (h 11) < 100 := by unfold kdE; split <;> (try split) <;> omega
    by_cases kz : kdE (h 12) (h 13) (h 11) = 0
    · rw [if_pos (show sI (kdE (h 12) (h 13) (h 11)) = 0 by rw [kz]; rfl), if_pos (show sI (kdE (h 12) (h 13) (h 11)) = 0 by rw [kz]; rfl), Nat.add_zero, e1 16 (by omega) (by omega), e7]
      have hob : ocE (h 13) (h 11) (h 14) < 100 := by
        have : ∀ f, f < 2 → ∀ r, r < 2 → ∀ c, c < 16 → ocE f r c < 100 := by decide
        exact this _ e5 _ e3 _ e6
      by_cases o8 : ocE (h 13) (h 11) (h 14) = 8
      · rw [if_pos (show sI (ocE (h 13) (h 11) (h 14)) = 8 by rw [o8]; rfl), if_pos (show sI (ocE (h 13) (h 11) (h 14)) = 8 by rw [o8]; rfl), e1 10 (by omega) (by omega)]
        obtain ⟨P2, z1, z2, z3⟩ := m_oct84 (fu := fu) (n := n) (N := C + 1) (i := tc n) (T := s7 tc') (k0 := k0) (id := h 10) (co := h 14) (v2 := sI (tc' n)) (tn := tn) (ov := ov) (e := h 12) (f := h 13) (r := h 11) (M := P1) (L := Lm) (fX19_lookAt_h11 fu (sI n) (q0 + 1)) hfu (by rw [fP1 _ _ (by omega) (by omega) (by omega)]; exact b3) (by omega) (by omega) (by rw [fP1 _ _ (by omega) (by omega) (by omega)]; exact b12) hT36 (fun k hk => by rw [fP1 _ _ (by omega) (by omega) (by omega)]; exact b13 k hk) g5 hk0 hcnt (by rw [fP1 _ _ (by omega) (by omega) (by omega)]; exact e9) (by rw [fP1 _ _ (by omega) (by omega) (by omega)]; exact e10) (by rw [fP1 _ _ (by omega) (by omega) (by omega)]; exact e11) e4 e5 e3 e6 o8 (fun j hj => ⟨by rw [fP1 _ _ (by omega) (by omega) (by omega)]; exact e12 j (by omega), (e2 j (by omega)).2⟩)
        rw [z1]
        have fP2 : ∀ a y, ¬ (a = 821 ∧ y = 0) → ¬ (a = 924 ∧ y = n) → a ≠ 926 → P2 a y = M a y := fun a y u1 u2 u3 => by rw [z3 a y u3 u1]; exact fP1 a y u1 u2 u3
        have p2924 : P2 924 n = sI (tc' n) := by rw [z3 _ _ (by omega) (by omega)]; exact b924
        have kTk : TkB A P2 Lc Lm S F W R X t E d tu g own Sb bd := TkB_M hTk (fun a y u1 u2 u3 => fP2 a y u3 (by omega) u2)
        have kTr : TrB A P2 Lm C Sb p o e := TrB_f hTr (fun _ _ _ => rfl) (fun a y u => fP2 a y (by omega) (by omega) (by omega)) (fun _ _ _ _ => rfl)
        have p19 : P2 732 19 = sI C := by rw [fP2 _ _ (by omega) (by omega) (by omega)]; exact h19
        unfold fX19_lookAt_i84
        rw [if_pos (show (8 : Int32) ≤ 8 by decide)]
        by_cases id1 : h 10 < 1536
        · rw [if_pos (show sI (h 10) < 1536 by rw [sI_ltl (by omega) (by decide)]; exact id1), if_neg (show ¬ (1536 : Int32) ≤ sI (h 10) by rw [sI_lle (by decide) (by omega)]; omega), h13]
          by_cases nC : n = C
          · -- the tester takes no signals
            rw [if_pos (show sI C ≤ sI n by rw [sI_le (by omega) (by omega)]; omega), mlet_e, sI_1]
            have es : fX19_lookAt_h126 fu (sI n) (fX19_lookAt_h11 fu (sI n) (q0 + 1)) fu (sI (tc' n), sI (h 10), 0, P2, Lm) = some (P2, Lm) := by
              have un : fX19_lookAt_h126 fu (sI n) (fX19_lookAt_h11 fu (sI n) (q0 + 1)) fu (sI (tc' n), sI (h 10), 0, P2, Lm) = fX19_lookAt_i126 fu (sI n) (fX19_lookAt_h11 fu (sI n) (q0 + 1)) (fX19_lookAt_h126 fu (sI n) (fX19_lookAt_h11 fu (sI n) (q0 + 1)) (q0 + 1)) (sI (tc' n)) (sI (h 10)) 0 P2 Lm := by
                conv => lhs; arg 4; rw [hq0]
                rfl
              rw [un]
              unfold fX19_lookAt_i126 fX19_lookAt_b174 fX19_lookAt_b214
              rw [p19, if_pos (show sI C ≤ sI n by rw [sI_le (by omega) (by omega)]; omega), endM q0 P2 Lm p2924]
              split <;> rfl
            rw [es]
            exact over P2 p2924 fP2
          · rw [if_neg (show ¬ sI C ≤ sI n by rw [sI_le (by omega) (by omega)]; omega)]
            obtain ⟨A2, Lc2, M2, Lm2, E2, y1, y2, y3, y4, y5, y6, y7, y8, y9⟩ := st_signals (fu := fu) (c := n) (C := C) (id := h 10) (row := 47 + 2 * n + 1) (n3 := 64) (v2 := sI (tc' n)) (ov := ov) (fX19_lookAt_h11 fu (sI n) (q0 + 1)) (by omega) p19 hC6 (by omega) (by omega) (by omega) (by omega) (by omega) hE (hbd n (by omega)) kTk (fun y hy => ⟨(e2 y (by omega)).1, z2 y hy, (e2 y (by omega)).2⟩)
            have eC : mb3 (DX6_frameOf fu (sI (h 10)) A Lc) (fun r13 M11 L12 => mb2 (DX1_takeSignals fu (sI n) r13 (47 + 2 * n + 1) 64 M11 L12) (fun M14 L15 => mlet (sI n + 1) (fun x18 => rrC (x18, M14, L15)))) = rrC (sI (n + 1), A2, Lc2) := by
              rcases c_frameOf (fu := fu) (L := Lc) kTk.1 (show h 10 < 2048 by omega) with ⟨f, _, _, f3⟩ | ⟨_, f3⟩
              · rw [f3, mb3_s] at y1 ⊢
                rw [y1, mb2_s, mlet_e, sI_1]
              · rw [f3, mb3_s] at y1 ⊢
                rw [y1, mb2_s, mlet_e, sI_1]
            rw [eC, y2]
            have m924 : M2 924 n = sI (tc' n) := by rw [y7 _ _ (by omega) (by omega) (by omega) (by omega) (by omega) (by omega) (by omega) (by omega) (by omega)]; exact p2924
            rw [endM q0 M2 Lm2 m924]
            have tM : ∀ a y, ¬ (a = 854 ∧ (y = 0 ∨ y = 6 ∨ y = 7)) → a ≠ 858 → a ≠ 859 → ¬ (863 ≤ a ∧ a ≤ 867) → ¬ (902 ≤ a ∧ a ≤ 920) → a ≠ 773 → ¬ (a = 939 ∧ (y = 1 ∨ y = 2)) → a ≠ 752 → a ≠ 753 → ¬ (a = 821 ∧ y = 0) → ¬ (a = 924 ∧ y = n) → a ≠ 926 → M2 a y = M a y := fun a y u1 u2 u3 u4 u5 u6 u7 u8 u9 u10 u11 u12 => by rw [y7 a y u1 u2 u3 u4 u5 u6 u7 u8 u9]; exact fP2 a y u10 u11 u12
            refine ⟨A2, Lc2, M2, Lm2, E2, p, o, e, rfl, rfl, ⟨y3, TrB_f kTr (fun a y u => y6 a y (by omega) (by omega) (by omega) (by omega) (by omega) (by omega) (by omega) (by omega)) (fun a y u => y7 a y (by omega) (by omega) (by omega) (by omega) (by omega) (by omega) (by omega) (by omega) (by omega)) (fun a y u1 u2 => y9 a y (by omega) (by omega) (by omega) (by omega)), BusE_fr hBu (fun a y u1 u2 => y6 a y (by omega) (by omega) (by omega) (by omega) (by omega) (by omega) (by omega) (by omega)) (fun a y u1 u2 u3 => tM a y (by omega) (by omega) (by omega) (by omega) (by omega) (by omega) (by omega) (by omega) (by omega) u3 (by omega) (by omega)), FrE_f hFr (fun a y u => y6 a y (by omega) (by omega) (by omega) (by omega) (by omega) (by omega) (by omega) (by omega)) (fun a y u1 u2 => tM a y (by omega) (by omega) (by omega) (by omega) (by omega) (by omega) (by omega) (by omega) (by omega) (by omega) (by omega) (by omega)), ?_, ?_, fun k hk => ?_⟩, y4, y5, rfl, fun a y u1 u2 u3 u4 u5 u6 u7 u8 u9 u10 u11 => y6 a y u1 u2 u3 (by omega) (by omega) u8 (by omega) u11, fun a y u1 u2 u3 u4 u5 u6 u7 u8 u9 u10 u11 u12 u13 => tM a y (by omega) u7 u8 (by omega) (by omega) u5 (by omega) u3 u4 u2 (by omega) (by omega), y8, fun a y u1 u2 u3 u4 u5 => y9 a y u1 u2 u3 u5⟩
            · rw [tM _ _ (by omega) (by omega) (by omega) (by omega) (by omega) (by omega) (by omega) (by omega) (by omega) (by omega) (by omega) (by omega)]; exact h19
            · rw [y6 _ _ (by omega) (by omega) (by omega) (by omega) (by omega) (by omega) (by omega) (by omega)]; exact h13
            · by_cases ek : k = n
              · rw [ek, if_pos (by omega)]; exact m924
              · rw [tM _ _ (by omega) (by omega) (by omega) (by omega) (by omega) (by omega) (by omega) (by omega) (by omega) (by omega) (by omega) (by omega)]
                have := h924 k hk
                by_cases lt : k < n
                · rw [if_pos lt] at this; rw [if_pos (by omega)]; exact this
                · rw [if_neg lt] at this; rw [if_neg (by omega)]; exact this
        · rw [if_neg (show ¬ sI (h 10) < 1536 by rw [sI_ltl (by omega) (by decide)]; exact id1), if_pos (show (1536 : Int32) ≤ sI (h 10) by rw [sI_lle (by decide) (by omega)]; omega)]
          -- a frame of the transfer
          have nothing : LnQ A M Lc Lm C S F W R X t E d tu g own Sb bd (p.1 0 3) ec tc tc' fl mk n rrC (rrC (sI (n + 1), A, Lc)) (fX19_lookAt_b214 fu (sI n) (fX19_lookAt_h11 fu (sI n) (q0 + 1)) (sI (tc' n)) P2 Lm) := by
            unfold fX19_lookAt_b214
            rw [endM q0 P2 Lm p2924]
            exact over P2 p2924 fP2
          have come : ∀ (c : Nat) (tt : Bool) (a2 : Int32), c < C → h 10 = 1536 + 2 * c + (if tt = true then 1 else 0) → LnQ A M Lc Lm C S F W R X t E d tu g own Sb bd (p.1 0 3) ec tc tc' fl mk n rrC (mb2 (fX1_takeOfTransfer_b40 fu (sI n) a2 (sI c) (bI tt) (sI n) A Lc) (fun M16 L17 => mlet (sI n + 1) (fun x18 => rrC (x18, M16, L17)))) (fX19_lookAt_b208 fu (sI n) (fX19_lookAt_h11 fu (sI n) (q0 + 1)) (sI (tc' n)) (sI (h 10)) P2 Lm) := by
            intro c tt a2 hc hid
            obtain ⟨⟨M2, Lm2⟩, y1, A2, Lc2, p', o', e', y2, y3, y4, y5, y6, y7, y8, y9⟩ := st_arrive (fu := fu) (c := c) (C := C) (tt := tt) (a1 := sI n) (a2 := a2) (by omega) hc hC6 hE kTk kTr
            dsimp only at y3 y4 y7 y9
            unfold fX19_lookAt_b208 fX19_lookAt_b214
            rw [hid, y1, mb2_s, y2, mb2_s, mlet_e, sI_1]
            have m924 : M2 924 n = sI (tc' n) := by rw [y7 _ _ (by omega) (by omega) (by omega) (by omega) (by omega) (by omega) (by omega) (by omega) (by omega)]; exact p2924
            rw [endM q0 M2 Lm2 m924]
            have tM : ∀ a y, ¬ (a = 732 ∧ (y = 88 ∨ y = 91 ∨ y = 95 ∨ y = 97 ∨ y = 98 ∨ y = 102 ∨ y = 108)) → ¬ (869 ≤ a ∧ a ≤ 920) → ¬ (927 ≤ a ∧ a ≤ 938) → ¬ (a = 939 ∧ y = 3) → a ≠ 854 → a ≠ 858 → a ≠ 859 → ¬ (863 ≤ a ∧ a ≤ 867) → ¬ (964 ≤ a ∧ (a - 964) % 53 = 0 ∧ y = 0) → ¬ (a = 821 ∧ y = 0) → ¬ (a = 924 ∧ y = n) → a ≠ 926 → M2 a y = M a y := fun a y u1 u2 u3 u4 u5 u6 u7 u8 u9 u10 u11 u12 => by rw [y7 a y u1 u2 u3 u4 u5 u6 u7 u8 u9]; exact fP2 a y u10 u11 u12
            refine ⟨A2, Lc2, M2, Lm2, E, p', o', e', rfl, rfl, ⟨TkB_bd y3 bdle, y4, BusE_fr hBu (fun a y u1 u2 => y6 a y (by omega) (by omega) (by omega) (by omega) (by omega) (by omega) (by omega)) (fun a y u1 u2 u3 => tM a y (by omega) (by omega) (by omega) (by omega) (by omega) (by omega) (by omega) (by omega) (by omega) u3 (by omega) (by omega)), FrE_f hFr (fun a y u => y6 a y (by omega) (by omega) (by omega) (by omega) (by omega) (by omega) (by omega)) (fun a y u1 u2 => tM a y (by omega) (by omega) (by omega) (by omega) (by omega) (by omega) (by omega) (by omega) (by omega) (by omega) (by omega) (by omega)), ?_, ?_, fun k hk => ?_⟩, by omega, by omega, y5, fun a y u1 u2 u3 u4 u5 u6 u7 u8 u9 u10 u11 => y6 a y u6 u7 u3 (by omega) (by omega) u10 (by omega), fun a y u1 u2 u3 u4 u5 u6 u7 u8 u9 u10 u11 u12 u13 => tM a y u1 (by omega) (by omega) (by omega) u6 u7 u8 (by omega) u13 u2 (by omega) (by omega), fun a y u1 u2 => y8 a y u2, fun a y u1 u2 u3 u4 u5 => y9 a y u4 u5⟩
            · rw [tM _ _ (by omega) (by omega) (by omega) (by omega) (by omega) (by omega) (by omega) (by omega) (by omega) (by omega) (by omega) (by omega)]; exact h19
            · rw [y6 _ _ (by omega) (by omega) (by omega) (by omega) (by omega) (by omega) (by omega)]; exact h13
            · by_cases ek : k = n
              · rw [ek, if_pos (by omega)]; exact m924
              · rw [tM _ _ (by omega) (by omega) (by omega) (by omega) (by omega) (by omega) (by omega) (by omega) (by omega) (by omega) (by omega) (by omega)]
                have := h924 k hk
                by_cases lt : k < n
                · rw [if_pos lt] at this; rw [if_pos (by omega)]; exact this
                · rw [if_neg lt] at this; rw [if_neg (by omega)]; exact this
          obtain ⟨wy, hwy⟩ : ∃ wy, h 10 = 1536 + wy := ⟨h 10 - 1536, by omega⟩
          have es : sI (h 10) - 1536 = sI wy := by
            rw [hwy]
            have := sI_sub (a := 1536 + wy) (b := 1536) (by omega)
            rw [show 1536 + wy - 1536 = wy from by omega] at this
            exact this
          have ed : sI wy / 2 = sI (wy / 2) := sI_div (b := 2) (by omega) (by omega)
          have em : sI wy - sI wy / 2 * 2 = sI (wy % 2) := sI_mod (b := 2) (by omega) (by omega)
          have em2 : sI (h 10) - sI (h 10) / 2 * 2 = sI (wy % 2) := by
            have := sI_mod (a := h 10) (b := 2) (by omega) (by omega)
            rw [show h 10 % 2 = wy % 2 from by omega] at this
            exact this
          have en : sI (h 10) = 1536 + 2 * sI n ↔ wy = 2 * n := by
            rw [sI_lml, sI_lad, sI_eq (by omega) (by omega)]
            omega
          have nC : sI n = sI C ↔ n = C := sI_eq (by omega) (by omega)
          rw [es, p19]
          unfold DX1_takeOfTransfer fX1_takeOfTransfer_b16 fX1_takeOfTransfer_b43
          rw [mlet_e, em, ed, h13, em2]
          by_cases cw : C ≤ wy / 2
          · have skip : mb2 (some (A, Lc)) (fun M16 L17 => mlet (sI n + 1) (fun x18 => rrC (x18, M16, L17))) = rrC (sI (n + 1), A, Lc) := by rw [mb2_s, mlet_e, sI_1]
            rw [if_pos (show sI C ≤ sI (wy / 2) by rw [sI_le (by omega) (by omega)]; exact cw), if_pos (show sI C ≤ sI (wy / 2) by rw [sI_le (by omega) (by omega)]; exact cw)]
            have eif : (if sI (wy % 2) = 1 then (some (A, Lc) : Option (mwM × mwL)) else some (A, Lc)) = some (A, Lc) := by split <;> rfl
            rw [eif, skip]
            by_cases nc : n = C
            · rw [if_pos (nC.mpr nc)]
              by_cases odd : wy % 2 = 1
              · rw [if_pos (show sI (wy % 2) = 1 by rw [odd]; rfl)]
                have a0 := m_arrive0 (fu := fu) (id := h 10) (C := C) (L := Lm) (by omega) kTr.1 kTr.2.2.2.1 kTr.2.2.2.2.2.1 (by omega) (by omega)
                unfold fX19_lookAt_b208
                rw [a0, mb2_s]
                exact nothing
              · rw [if_neg (show ¬ sI (wy % 2) = 1 by rw [show (1 : Int32) = sI 1 from rfl, sI_eq (by omega) (by omega)]; exact odd)]
                exact nothing
            · rw [if_neg (fun w => nc (nC.mp w)), if_neg (fun w => by have := en.mp w; omega)]
              exact nothing
          · rw [if_neg (show ¬ sI C ≤ sI (wy / 2) by rw [sI_le (by omega) (by omega)]; exact cw), if_neg (show ¬ sI C ≤ sI (wy / 2) by rw [sI_le (by omega) (by omega)]; exact cw)]
            by_cases odd : wy % 2 = 1
            · rw [if_pos (show sI (wy % 2) = 1 by rw [odd]; rfl), if_neg (show ¬ (1 : Int32) = 0 by decide), if_pos (show sI (wy % 2) = 1 by rw [odd]; rfl)]
              by_cases nc : n = C
              · rw [if_pos (nC.mpr nc)]
                have := come (wy / 2) true (sI wy) (by omega) (by rw [if_pos rfl]; omega)
                rw [nc] at this ⊢
                exact this
              · rw [if_neg (fun w => nc (nC.mp w)), if_neg (fun w => by have := en.mp w; omega)]
                have sk : fX1_takeOfTransfer_b40 fu (sI n) (sI wy) (sI (wy / 2)) 1 (sI C) A Lc = some (A, Lc) := by
                  unfold fX1_takeOfTransfer_b40 fX1_takeOfTransfer_b43
                  rw [if_neg (fun w => nc (nC.mp w))]
                rw [sk, mb2_s, mlet_e, sI_1]
                exact nothing
            · rw [if_neg (show ¬ sI (wy % 2) = 1 by rw [show (1 : Int32) = sI 1 from rfl, sI_eq (by omega) (by omega)]; exact odd), if_pos (show (0 : Int32) = 0 from rfl), if_neg (show ¬ sI (wy % 2) = 1 by rw [show (1 : Int32) = sI 1 from rfl, sI_eq (by omega) (by omega)]; exact odd)]
              by_cases nw : n = wy / 2
              · rw [if_neg (fun w => by have := nC.mp w; omega), if_pos (en.mpr (by omega))]
                have := come (wy / 2) false (sI wy) (by omega) (by rw [if_neg (by decide)]; omega)
                rw [← nw] at this ⊢
                exact this
              · have sk : fX1_takeOfTransfer_b40 fu (sI n) (sI wy) (sI (wy / 2)) 0 (sI (wy / 2)) A Lc = some (A, Lc) := by
                  unfold fX1_takeOfTransfer_b40 fX1_takeOfTransfer_b43
                  rw [if_neg (by rw [sI_eq (by omega) (by omega)]; exact nw)]
                rw [sk, mb2_s, mlet_e, sI_1]
                by_cases nc : n = C
                · rw [if_pos (nC.mpr nc)]
                  exact nothing
                · rw [if_neg (fun w => nc (nC.mp w)), if_neg (fun w => by have := en.mp w; omega)]
                  exact nothing
      · rw [if_neg (show ¬ sI (ocE (h 13) (h 11) (h 14)) = 8 by rw [sI_eql (by omega) (by decide)]; exact o8), if_neg (show ¬ sI (ocE (h 13) (h 11) (h 14)) = 8 by rw [sI_eql (by omega) (by decide)]; exact o8), mlet_e, sI_1, endM q0 P1 Lm b924]
        exact over P1 b924 fP1
    · rw [if_neg (show ¬ sI (kdE (h 12) (h 13) (h 11)) = 0 by rw [show (0 : Int32) = sI 0 from rfl, sI_eq (by omega) (by omega)]; exact kz), if_neg (show ¬ sI (kdE (h 12) (h 13) (h 11)) = 0 by rw [show (0 : Int32) = sI 0 from rfl, sI_eq (by omega) (by omega)]; exact kz), mlet_e, sI_1, endM q0 P1 Lm b924]
      exact over P1 b924 fP1
  · -- it has taken none
    have b924 : mset M 821 0 0 924 n = sI (tc' n) := by rw [mset_n (by omega), h924n, g2]
    rw [if_pos (by rw [g1]; rfl), mlet_e, sI_1]
    have eE := endM (fu - 1) (mset M 821 0 0) Lm b924
    rw [show fu - 1 + 1 = fu from by omega] at eE
    rw [eE]
    exact over _ b924 (fun a y u1 u2 u3 => by rw [mset_n u1])
/-! all nodes look -/
theorem m_look0 {fu n C t : Nat} {A M : mwM} {L : mwL} {ec tc' fl : Nat → Nat} (hfu : 5000 ≤ fu) (hn : n ≤ C) (hC6 : C ≤ 6) (hB : BusE A M (C + 1) t ec tc' fl) (h924 : M 924 n = sI (tc' n)) : DX19_lookAt fu (sI n) M L = some (mset M 821 0 0, L) := by
  obtain ⟨Fb, ow, idb, ocb, dn, asl, hBR⟩ := hB
  obtain ⟨⟨b1, ⟨b2, b3, b4⟩, b5, b6, b7, b8, b9, b10, b11, b12, hTn, b15⟩, _⟩ := hBR
  have tc0 := (b15 0 (by omega)).2
  have tc1 := (b15 1 (by omega)).2
  have tc2 := (b15 2 (by omega)).2
  have tc3 := (b15 3 (by omega)).2
  have tc4 := (b15 4 (by omega)).2
  have tc5 := (b15 5 (by omega)).2
  have tc6 := (b15 6 (by omega)).2
  have hT36 : s7 tc' ≤ 3600 := by unfold s7; omega
  have htcn : tc' n < 2000 := by
    have := (b15 n (by omega)).2
    omega
  have many := m_takenC (fu := fu) (n := n) (L := L) hfu b3 (by omega) (show n < C + 1 by omega) b12 hT36 hTn
  obtain ⟨q, rfl⟩ : ∃ q, fu = q + 1 := ⟨fu - 1, by omega⟩
  unfold DX19_lookAt
  rw [many, mb3_s]
  show fX19_lookAt_i11 (q + 1) (sI n) (fX19_lookAt_h11 (q + 1) (sI n) q) (sI (tc' n)) (mset M 821 0 0) L = _
  unfold fX19_lookAt_i11
  rw [mck_s (by omega) (by omega), sI_nn (by omega), mset_n (by omega), h924, if_pos (by rw [sI_le (by omega) (by omega)]; omega)]
theorem lkA_t {A B C : mwM} (h1 : lkA A B) (h2 : lkA B C) : lkA A C := fun a y u1 u2 u3 u4 u5 u6 u7 u8 u9 u10 u11 => by rw [h2 a y u1 u2 u3 u4 u5 u6 u7 u8 u9 u10 u11]; exact h1 a y u1 u2 u3 u4 u5 u6 u7 u8 u9 u10 u11
theorem lkM_t {A B C : mwM} (h1 : lkM A B) (h2 : lkM B C) : lkM A C := fun a y u1 u2 u3 u4 u5 u6 u7 u8 u9 u10 u11 u12 u13 => by rw [h2 a y u1 u2 u3 u4 u5 u6 u7 u8 u9 u10 u11 u12 u13]; exact h1 a y u1 u2 u3 u4 u5 u6 u7 u8 u9 u10 u11 u12 u13
theorem lkC_t {A B C : mwL} (h1 : lkC A B) (h2 : lkC B C) : lkC A C := fun a y u1 u2 => by rw [h2 a y u1 u2]; exact h1 a y u1 u2
theorem lkL_t {A B C : mwL} (h1 : lkL A B) (h2 : lkL B C) : lkL A C := fun a y u1 u2 u3 u4 u5 => by rw [h2 a y u1 u2 u3 u4 u5]; exact h1 a y u1 u2 u3 u4 u5
theorem st_looks {fu C S F W R X t E mk : Nat} {d : Nat → Nat → Nat} {tu : Nat → Bool} {g : Nat → Nat → Nat} {own Sb bd : Nat → Nat} {A M : mwM} {Lc Lm : mwL} {p : PB} {o : Nat → Nat → Nat} {e ec tc tc' fl : Nat → Nat} (hfu : 5000 ≤ fu) (hC6 : C ≤ 6) (hmk : mk < 128) (hE : E < 700000000) (hbd : ∀ c, c < 6 → bd c < 900000000) (hZ : LkZ A M Lc Lm C S F W R X t E d tu g own Sb bd p o e ec tc tc' fl mk 0) : ∃ (A' : mwM) (Lc' : mwL) (M' : mwM) (Lm' : mwL) (E' : Nat) (p' : PB) (o' : Nat → Nat → Nat) (e' : Nat → Nat), (if (A 20 12) = 0 then fX1_passMicrosecond_b54 fu A Lc else mb2 (DX1_takeFrames fu A Lc) (fun M23 L24 => fX1_passMicrosecond_b54 fu M23 L24)) = fX1_passMicrosecond_b54 fu A' Lc' ∧ fX19_microsecond_h118 fu fu (0, M, Lm) = fX19_microsecond_h139 fu fu (0, M', Lm') ∧ LkZ A' M' Lc' Lm' C S F W R X t E' d tu g own Sb (fun x => bd x + 64) p' o' e' ec tc tc' fl mk (C + 1) ∧ E ≤ E' ∧ E' ≤ E + 210 ∧ p'.1 0 3 = p.1 0 3 ∧ lkA A A' ∧ lkM M M' ∧ lkC Lc Lc' ∧ lkL Lm Lm' := by
  by_cases m0 : mk = 0
  · obtain ⟨hTk, hTr, hBu, hFr, h19, h13, h924⟩ := hZ
    obtain ⟨f20, fr⟩ := id hFr
    have same : ∀ n, n < 7 → tc' n = tc n := fun n hn => by
      rcases fr n hn with ⟨g1, _⟩ | ⟨_, g2⟩
      · rw [m0, Nat.zero_div] at g1
        omega
      · exact g2
    have h924' : ∀ k, k ≤ C → M 924 k = sI (tc' k) := fun k hk => by
      have := h924 k hk
      rw [if_neg (by omega)] at this
      rw [this, same k (by omega)]
    have key : ∀ (r n q : Nat) (B : mwM), n + r = C + 1 → r < q → (∀ a y, ¬ (a = 821 ∧ y = 0) → B a y = M a y) → ∃ B', fX19_microsecond_h118 fu q (sI n, B, Lm) = fX19_microsecond_h139 fu fu (0, B', Lm) ∧ ∀ a y, ¬ (a = 821 ∧ y = 0) → B' a y = M a y := by
      intro r
      induction r with
      | zero =>
        intro n q B hn hq hB
        obtain ⟨q', rfl⟩ : ∃ y, q = y + 1 := ⟨q - 1, by omega⟩
        refine ⟨B, ?_, hB⟩
        show fX19_microsecond_i118 fu (fX19_microsecond_h118 fu q') (sI n) B Lm = _
        unfold fX19_microsecond_i118
        rw [hB _ _ (by omega), h19, if_pos (by rw [sI_lt (by omega) (by omega)]; omega)]
      | succ r ih =>
        intro n q B hn hq hB
        obtain ⟨q', rfl⟩ : ∃ y, q = y + 1 := ⟨q - 1, by omega⟩
        have un : fX19_microsecond_h118 fu (q' + 1) (sI n, B, Lm) = fX19_microsecond_i118 fu (fX19_microsecond_h118 fu q') (sI n) B Lm := rfl
        rw [un]
        unfold fX19_microsecond_i118
        rw [hB _ _ (by omega), h19, if_neg (by rw [sI_lt (by omega) (by omega)]; omega), m_look0 (A := A) (tc' := tc') (ec := ec) (fl := fl) (t := t) hfu (by omega) hC6 (BusE_fr hBu (fun _ _ _ _ => rfl) (fun a y u1 u2 u3 => hB a y u3)) (by rw [hB _ _ (by omega)]; exact h924' n (by omega)), mb2_s, mlet_e, sI_1]
        exact ih (n + 1) q' _ (by omega) (by omega) (fun a y u => by rw [mset_n u]; exact hB a y u)
    obtain ⟨B', k1, k2⟩ := key (C + 1) 0 fu M (by omega) (by omega) (fun _ _ _ => rfl)
    refine ⟨A, Lc, B', Lm, E, p, o, e, by rw [f20, m0, if_pos (show sI 0 = 0 from rfl)], k1, ⟨TkB_bd (TkB_M hTk (fun a y u1 u2 u3 => k2 a y u3)) (fun x _ => Nat.le_add_right _ _), TrB_f hTr (fun _ _ _ => rfl) (fun a y u => k2 a y (by omega)) (fun _ _ _ _ => rfl), BusE_fr hBu (fun _ _ _ _ => rfl) (fun a y u1 u2 u3 => k2 a y u3), FrE_f hFr (fun _ _ _ => rfl) (fun a y u1 u2 => k2 a y (by omega)), by rw [k2 _ _ (by omega)]; exact h19, h13, fun k hk => by rw [if_pos (by omega), k2 _ _ (by omega)]; exact h924' k hk⟩, by omega, by omega, rfl, fun _ _ _ _ _ _ _ _ _ _ _ _ _ => rfl, fun a y u1 u2 u3 u4 u5 u6 u7 u8 u9 u10 u11 u12 u13 => k2 a y u2, fun _ _ _ _ => rfl, fun _ _ _ _ _ _ _ => rfl⟩
  · have f20 : A 20 12 = sI mk := hZ.2.2.2.1.1
    have key : ∀ (r n q q' : Nat) (B : mwM) (Bc : mwL) (P : mwM) (Pm : mwL) (E1 : Nat) (bd1 : Nat → Nat) (p1 : PB) (o1 : Nat → Nat → Nat) (e1 : Nat → Nat), n + r = C + 1 → r < q → r < q' → LkZ B P Bc Pm C S F W R X t E1 d tu g own Sb bd1 p1 o1 e1 ec tc tc' fl mk n → E ≤ E1 → E1 ≤ E + 30 * n → (∀ x, x < 6 → bd1 x ≤ (if x < n then bd x + 64 else bd x)) → p1.1 0 3 = p.1 0 3 → lkA A B → lkM M P → lkC Lc Bc → lkL Lm Pm → ∃ (A' : mwM) (Lc' : mwL) (M' : mwM) (Lm' : mwL) (E' : Nat) (p' : PB) (o' : Nat → Nat → Nat) (e' : Nat → Nat), fX1_takeFrames_h2 fu q (sI n, B, Bc) = some (A', Lc') ∧ fX19_microsecond_h118 fu q' (sI n, P, Pm) = fX19_microsecond_h139 fu fu (0, M', Lm') ∧ LkZ A' M' Lc' Lm' C S F W R X t E' d tu g own Sb (fun x => bd x + 64) p' o' e' ec tc tc' fl mk (C + 1) ∧ E ≤ E' ∧ E' ≤ E + 210 ∧ p'.1 0 3 = p.1 0 3 ∧ lkA A A' ∧ lkM M M' ∧ lkC Lc Lc' ∧ lkL Lm Lm' := by
      intro r
      induction r with
      | zero =>
        intro n q q' B Bc P Pm E1 bd1 p1 o1 e1 hn hq hq' kZ k1 k2 k3 k4 f1 f2 f3 f4
        obtain ⟨x, rfl⟩ : ∃ y, q = y + 1 := ⟨q - 1, by omega⟩
        obtain ⟨x', rfl⟩ : ∃ y, q' = y + 1 := ⟨q' - 1, by omega⟩
        have en : n = C + 1 := by omega
        subst en
        obtain ⟨z1, z2, z3, z4, z5, z6, z7⟩ := id kZ
        refine ⟨B, Bc, P, Pm, E1, p1, o1, e1, ?_, ?_, ⟨TkB_bd z1 (fun x hx => by
          have := k3 x hx
          try dsimp only
          split at this <;> omega), z2, z3, z4, z5, z6, z7⟩, k1, by omega, k4, f1, f2, f3, f4⟩
        · show fX1_takeFrames_i2 fu (fX1_takeFrames_h2 fu x) (sI (C + 1)) B Bc = _
          unfold fX1_takeFrames_i2
          rw [z6, if_pos (by rw [sI_lt (by omega) (by omega)]; omega)]
        · show fX19_microsecond_i118 fu (fX19_microsecond_h118 fu x') (sI (C + 1)) P Pm = _
          unfold fX19_microsecond_i118
          rw [z5, if_pos (by rw [sI_lt (by omega) (by omega)]; omega)]
      | succ r ih =>
        intro n q q' B Bc P Pm E1 bd1 p1 o1 e1 hn hq hq' kZ k1 k2 k3 k4 f1 f2 f3 f4
        obtain ⟨x, rfl⟩ : ∃ y, q = y + 1 := ⟨q - 1, by omega⟩
        obtain ⟨x', rfl⟩ : ∃ y, q' = y + 1 := ⟨q' - 1, by omega⟩
        obtain ⟨z1, z2, z3, z4, z5, z6, z7⟩ := id kZ
        obtain ⟨A2, Lc2, M2, Lm2, E2, p2, o2, e2, y1, y2, y3, y4, y5, y6, y7, y8, y9, y10⟩ := st_lookn (fu := fu) (n := n) (fX1_takeFrames_h2 fu x) hfu (by omega) hC6 hmk (by omega) (fun c hc => by
          have := k3 c hc
          have := hbd c hc
          split at * <;> omega) kZ
        have unA : fX1_takeFrames_h2 fu (x + 1) (sI n, B, Bc) = fX1_takeFrames_i2 fu (fX1_takeFrames_h2 fu x) (sI n) B Bc := rfl
        have unM : fX19_microsecond_h118 fu (x' + 1) (sI n, P, Pm) = fX19_microsecond_i118 fu (fX19_microsecond_h118 fu x') (sI n) P Pm := rfl
        rw [unA, unM, y1]
        unfold fX19_microsecond_i118
        rw [z5, if_neg (by rw [sI_lt (by omega) (by omega)]; omega), y2, mb2_s, mlet_e, sI_1]
        refine ih (n + 1) x x' A2 Lc2 M2 Lm2 E2 _ p2 o2 e2 (by omega) (by omega) (by omega) y3 (by omega) (by omega) (fun c hc => ?_) (by rw [y6, k4]) (lkA_t f1 y7) (lkM_t f2 y8) (lkC_t f3 y9) (lkL_t f4 y10)
        have := k3 c hc
        try dsimp only
        by_cases ec' : c = n
        · rw [if_pos ec', if_pos (by omega)]
          rw [if_neg (by omega)] at this
          omega
        · rw [if_neg ec']
          by_cases lt : c < n
          · rw [if_pos lt] at this; rw [if_pos (by omega)]; exact this
          · rw [if_neg lt] at this; rw [if_neg (by omega)]; exact this
    obtain ⟨A', Lc', M', Lm', E', p', o', e', y1, y2, y3⟩ := key (C + 1) 0 fu fu A Lc M Lm E bd p o e (by omega) (by omega) (by omega) hZ (by omega) (by omega) (fun x _ => by rw [if_neg (by omega)]; exact Nat.le_refl _) rfl (fun _ _ _ _ _ _ _ _ _ _ _ _ _ => rfl) (fun _ _ _ _ _ _ _ _ _ _ _ _ _ _ _ => rfl) (fun _ _ _ _ => rfl) (fun _ _ _ _ _ _ _ => rfl)
    have y1' : DX1_takeFrames fu A Lc = some (A', Lc') := y1
    refine ⟨A', Lc', M', Lm', E', p', o', e', ?_, y2, y3⟩
    rw [f20, if_neg (by rw [show (0 : Int32) = sI 0 from rfl, sI_eq (by omega) (by omega)]; exact m0), y1', mb2_s]
/-! cores and charts, while others work -/
theorem RCo_w {A A' M M' : mwM} {L L' : mwL} {T C t : Nat} (h : RCo A M L T C t) (hA : ∀ a y, 5 ≤ a → a ≤ 19 → A' a y = A a y) (hM : ∀ a y, 787 ≤ a → a ≤ 820 → M' a y = M a y) (hL : ∀ a y, 787 ≤ a → a ≤ 820 → L' a y = L a y) : RCo A' M' L' T C t := by
  have eA : ∀ a, 5 ≤ a → a ≤ 19 → A' a = A a := fun a u1 u2 => funext (fun y => hA a y u1 u2)
  have eM : ∀ a, 787 ≤ a → a ≤ 820 → M' a = M a := fun a u1 u2 => funext (fun y => hM a y u1 u2)
  have eL : ∀ a, 787 ≤ a → a ≤ 820 → L' a = L a := fun a u1 u2 => funext (fun y => hL a y u1 u2)
  obtain ⟨tn, cn, U, cut, hR, hAL, h43, h1, h2, h3, h4, h5, h6, h7⟩ := h
  refine ⟨tn, cn, U, cut, ?_, ?_, by rw [eL 787 (by omega) (by omega)]; exact h43, h1, h2, h3, h4, by rw [eA 5 (by omega) (by omega)]; exact h5, ?_, ?_⟩
  · unfold RC at hR ⊢
    simp (disch := omega) only [tk, tm, lfR, eA 5, eA 7, eA 8, eA 9, eA 10, eA 11, eA 12, eA 13, eA 14, eA 15, eA 16, eA 17, eA 18, eM 787, eM 788, eM 789, eM 790, eM 792, eM 793, eM 794, eM 796, eM 798, eM 799, eM 801, eM 804, eM 806, eM 809, eM 810, eL 787, eL 795, eL 797, eL 800, eL 805] at hR ⊢
    exact hR
  · unfold AL at hAL ⊢
    rw [eM 787 (by omega) (by omega), eM 812 (by omega) (by omega), eL 813 (by omega) (by omega), eA 11 (by omega) (by omega), eA 9 (by omega) (by omega)]
    exact hAL
  · rw [eA 5 (by omega) (by omega)]
    intro w
    have := h6 w
    unfold SA stl at this ⊢
    rw [eA 18 (by omega) (by omega), eA 8 (by omega) (by omega), eA 12 (by omega) (by omega), eA 7 (by omega) (by omega), eA 13 (by omega) (by omega)]
    exact this
  · unfold WH at h7 ⊢
    rw [eA 19 (by omega) (by omega), eM 820 (by omega) (by omega)]
    exact h7
theorem ReC_D {k : Nat} {A : mwM} {L L' : mwL} {c : Nat → Nat → Nat} {b : Nat → Nat → Bool} {va : Nat → Int32} {D : Nat → Int64} {x : Nat → Int32} (h : ReC k A L c b va D x) : ReC k A L' c b va (L' (k + 34)) x := by
  obtain ⟨h1, h2, h3, ⟨h4, h5, h6, h7, h8, h9⟩, h10⟩ := h
  exact ⟨h1, h2, h3, ⟨h4, h5, h6, h7, h8, rfl⟩, h10⟩
theorem ReM_D {q : Nat} {M : mwM} {L L' : mwL} {c : Nat → Nat → Nat} {b : Nat → Nat → Bool} {va : Nat → Int32} {D : Nat → Int64} {x : Nat → Int32} (h : ReM q M L c b va D x) (hL : ∀ a, q + 5 ≤ a → a ≤ q + 20 → L' a = L a) : ReM q M L' c b va (L' (q + 21)) x := by
  obtain ⟨h1, h2, h3, ⟨h4, h5, h6, h7, h8, h9, h9'⟩, h10, h11, h12, h13⟩ := h
  refine ⟨h1, h2, ?_, ⟨h4, h5, h6, h7, h8, rfl, h9'⟩, fun s u => by rw [hL _ (by omega) (by omega)]; exact h10 s u, fun s u1 u2 => by rw [hL _ (by omega) (by omega)]; exact h11 s u1 u2, h12, h13⟩
  unfold AxM at h3 ⊢
  rw [hL _ (by omega) (by omega)]
  exact h3
/-- a chart, as both keep it -/
def CxR (A M : mwM) (Lc Lm : mwL) (t x : Nat) : Prop := ∃ (va : Nat → Int32) (p : ZT × Int32) (nw : Nat), WI p.1 ∧ RcW (293 + 36 * x) A Lc va p.1 ∧ RmW (964 + 53 * x) M Lm va p.1 ∧ A (293 + 36 * x) 13 = p.2 ∧ M 751 x = p.2 ∧ Lm (964 + 53 * x) 28 = sL nw ∧ nw ≤ t
theorem CxR_f {A A' M M' : mwM} {Lc Lc' Lm Lm' : mwL} {t t' x : Nat} (h : CxR A M Lc Lm t x) (ht : t ≤ t') (hA : ∀ a y, 293 + 36 * x ≤ a → a ≤ 293 + 36 * x + 33 → ¬ (a = 293 + 36 * x ∧ (y = 5 ∨ y = 11 ∨ y = 12)) → A' a y = A a y) (hM : ∀ a y, 964 + 53 * x ≤ a → a ≤ 964 + 53 * x + 21 → ¬ (a = 964 + 53 * x ∧ y = 0) → M' a y = M a y) (h751 : M' 751 x = M 751 x) (hL : ∀ a, 964 + 53 * x ≤ a → a ≤ 964 + 53 * x + 20 → Lm' a = Lm a) (hD : Lc' (293 + 36 * x + 34) = Lm' (964 + 53 * x + 21)) : CxR A' M' Lc' Lm' t' x := by
  obtain ⟨va, p, nw, h1, h2, h3, h4, h5, h6, h7⟩ := h
  have c1 : RcW (293 + 36 * x) A' Lc va p.1 := RcW_f h2 (fun a y u1 u2 u3 u4 u5 => hA a y u1 u2 (by omega)) rfl
  have m1 : RmW (964 + 53 * x) M' Lm va p.1 := ReM_f h3 (fun a y u1 u2 u3 => hM a y u1 u2 (by omega)) (fun _ _ _ => rfl)
  refine ⟨va, (((p.1.1.1, p.1.1.2.1, Lc' (293 + 36 * x + 34)), p.1.2), p.2), nw, h1, ⟨ReC_D c1.1, c1.2⟩, ?_, by rw [hA _ _ (by omega) (by omega) (by omega)]; exact h4, by rw [h751]; exact h5, by rw [hL _ (by omega) (by omega)]; exact h6, by omega⟩
  have := ReM_D (L' := Lm') m1 (fun a u1 u2 => hL a (by omega) (by omega))
  rw [← hD] at this
  exact this
theorem m_used {fu i T : Nat} {M : mwM} {L : mwL} (hT : T ≤ 12) (hi : i < T) (h1 : M 787 1 = sI T) : DX15_used fu (sI (i + 1)) M L = some (L 805 (i + 1), M, L) := by
  unfold DX15_used fX15_used_b20
  rw [m_no hT hi h1, mb3_s, if_pos (show (0 : Int32) = 0 from rfl), mck_s (by omega) (by omega), sI_nn (by omega)]
/-- what the tasks had used -/
theorem m_before {fu T : Nat} {M : mwM} {L : mwL} (hfu : 50 ≤ fu) (hT : T ≤ 12) (h24 : M 732 24 = sI T) (h1 : M 787 1 = sI T) : ∃ L', fX19_microsecond_h67 fu fu (0, M, L) = mb3 (DX15_run fu 1 M L') (fun r18 M16 L17 => mlet (mset M16 732 83 ((M16 732 83) + 1)) (fun M19 => fX19_microsecond_h118 fu fu (0, M19, L17))) ∧ (∀ i, i < T → L' 925 i = L 805 (i + 1)) ∧ ∀ a y, a ≠ 925 → L' a y = L a y := by
  have key : ∀ (r i q : Nat) (Q : mwL), i + r = T → r < q → (∀ j, j < i → Q 925 j = L 805 (j + 1)) → (∀ a y, a ≠ 925 → Q a y = L a y) → ∃ L', fX19_microsecond_h67 fu q (sI i, M, Q) = mb3 (DX15_run fu 1 M L') (fun r18 M16 L17 => mlet (mset M16 732 83 ((M16 732 83) + 1)) (fun M19 => fX19_microsecond_h118 fu fu (0, M19, L17))) ∧ (∀ i, i < T → L' 925 i = L 805 (i + 1)) ∧ ∀ a y, a ≠ 925 → L' a y = L a y := by
    intro r
    induction r with
    | zero =>
      intro i q Q hi hq g1 g2
      obtain ⟨q', rfl⟩ : ∃ y, q = y + 1 := ⟨q - 1, by omega⟩
      refine ⟨Q, ?_, fun j hj => g1 j (by omega), g2⟩
      show fX19_microsecond_i67 fu (fX19_microsecond_h67 fu q') (sI i) M Q = _
      unfold fX19_microsecond_i67
      rw [h24, if_pos (by rw [sI_le (by omega) (by omega)]; omega)]
    | succ r ih =>
      intro i q Q hi hq g1 g2
      obtain ⟨q', rfl⟩ : ∃ y, q = y + 1 := ⟨q - 1, by omega⟩
      have un : fX19_microsecond_h67 fu (q' + 1) (sI i, M, Q) = fX19_microsecond_i67 fu (fX19_microsecond_h67 fu q') (sI i) M Q := rfl
      rw [un]
      unfold fX19_microsecond_i67
      rw [h24, if_neg (by rw [sI_le (by omega) (by omega)]; omega), sI_1, m_used hT (by omega) h1, mb3_s, mck_s (by omega) (by omega), mlet_e, mlet_e, sI_nn (by omega)]
      refine ih (i + 1) q' _ (by omega) (by omega) (fun j hj => ?_) (fun a y u => by rw [mset_n (by omega)]; exact g2 a y u)
      by_cases e : j = i
      · rw [e, mset_s]; exact g2 _ _ (by omega)
      · rw [mset_n (by omega)]; exact g1 j (by omega)
  exact key T 0 fu L (by omega) (by omega) (fun j hj => by omega) (fun _ _ _ => rfl)
/-! tasks that are done let their charts work -/
abbrev wkA (A A' : mwM) : Prop := ∀ a y, ¬ (293 ≤ a ∧ ¬ ((a - 293) % 36 = 0 ∧ y < 11)) → A' a y = A a y
abbrev wkM (X : Nat) (M M' : mwM) : Prop := ∀ a y, a ≠ 748 → a ≠ 751 → a ≠ 752 → ¬ (964 ≤ a ∧ (a - 964) % 53 ≤ 29 ∧ a < 964 + 53 * X) → M' a y = M a y
abbrev wkC (X : Nat) (L L' : mwL) : Prop := ∀ a y, ¬ (293 ≤ a ∧ (a - 293) % 36 = 34 ∧ a < 293 + 36 * X) → L' a y = L a y
abbrev wkL (X : Nat) (L L' : mwL) : Prop := ∀ a y, ¬ (964 ≤ a ∧ (a - 964) % 53 ≤ 21 ∧ a < 964 + 53 * X) → L' a y = L a y
/-- which task has which chart, and what it has used -/
def TsR (A M : mwM) (Lm : mwL) (T X fr : Nat) : Prop := T ≤ 12 ∧ X ≤ 12 ∧ fr < 2 ^ T ∧ A 5 5 = sI fr ∧ M 732 24 = sI T ∧ M 787 1 = sI T ∧ ∀ i, i < T → ((A 283 i = -1 ∧ M 747 i = -1) ∨ ∃ x, x < X ∧ A 283 i = sI x ∧ M 747 i = sI x) ∧ ∃ us us' mi, M 746 i = sI mi ∧ mi ≤ 1000 ∧ Lm 925 i = sL us ∧ Lm 805 (i + 1) = sL us' ∧ us' < 1000000 ∧ us ≤ us' ∧ (fr.testBit i = true ↔ us < us' ∧ us' % (mi + 1) = 0)
theorem sh_i {fr i : Nat} (hi : i < 12) (hf : fr < 4096) : (sI fr >>> (sI i &&& 31)) = sI (fr / 2 ^ i) := by
  have e : ∀ i, i < 12 → sI i &&& 31 = sI i := by decide
  rw [e i hi]
  exact sI_shr (by omega) (by omega)
theorem m_taskDone0 {fu i : Nat} {M : mwM} {L : mwL} (hi : i < 12) (h : M 747 i = -1) : DX19_taskDone fu (sI i) M L = some (mset M 748 i (M 748 i + 1), L) := by
  unfold DX19_taskDone
  rw [mck_s hi (by omega), mck_s hi (by omega), mlet_e, sI_nn (by omega), mck_s hi (by omega), mlet_e, mset_n (by omega), h, if_neg (by decide)]
/-- the reference asks whether task i is done -/
theorem m_done {fu i T X fr : Nat} {A M : mwM} {L : mwL} (r139 : (Int32 × mwM × mwL) → Option (mwM × mwL)) (h : TsR A M L T X fr) (hi : i < T) : fX19_microsecond_i139 fu r139 (sI i) M L = if fr.testBit i = true then mb2 (DX19_taskDone fu (sI i) M L) (fun M39 L40 => r139 (sI (i + 1), M39, L40)) else r139 (sI (i + 1), M, L) := by
  obtain ⟨h1, h2, h3, h4, h5, h6, h7⟩ := h
  obtain ⟨_, us, us', mi, k1, k2, k3, k4, k5, k6, k7⟩ := h7 i hi
  unfold fX19_microsecond_i139 fX19_microsecond_b193
  rw [h5, if_neg (by rw [sI_le (by omega) (by omega)]; omega), sI_1, m_used h1 hi h6, mb3_s, mck_s (by omega) (by omega), sI_nn (by omega), k3, k4]
  have l1 : (lg_cmp (sL us') (sL us) ≤ 0) ↔ us' ≤ us := by
    rw [lg_cmp_le]
    exact sL_le (by omega) (by omega)
  by_cases c1 : us' ≤ us
  · rw [if_pos (l1.mpr c1), mlet_e, if_neg (fun w => by have := k7.mp w; omega)]
  · rw [if_neg (fun w => c1 (l1.mp w)), mck_s (by omega) (by omega), k1, sI_1, sI_L (by omega)]
    unfold mnzL
    have nz : ¬ sL (mi + 1) = 0 := by
      rw [show (0 : Int64) = sL 0 from rfl, sL_eq (by omega) (by omega)]
      omega
    have hm := Nat.mod_lt us' (show 0 < mi + 1 by omega)
    rw [if_neg nz, sL_mod (by omega) (by omega)]
    have l2 : (lg_cmp (sL (us' % (mi + 1))) 0 = 0) ↔ us' % (mi + 1) = 0 := by
      rw [lg_cmp_eq, show (0 : Int64) = sL 0 from rfl, sL_eq (by omega) (by omega)]
    by_cases c2 : us' % (mi + 1) = 0
    · rw [if_pos (l2.mpr c2), if_pos (k7.mpr ⟨by omega, c2⟩)]
      rfl
    · rw [if_neg (fun w => c2 (l2.mp w)), mlet_e, if_neg (fun w => c2 (k7.mp w).2)]
theorem TsR_f {A A' M M' : mwM} {L L' : mwL} {T X fr : Nat} (h : TsR A M L T X fr) (hA : ∀ a y, (a = 5 ∧ y = 5) ∨ a = 283 → A' a y = A a y) (hM : ∀ a y, (a = 732 ∧ y = 24) ∨ a = 787 ∨ a = 746 ∨ a = 747 → M' a y = M a y) (hL : ∀ a y, a = 925 ∨ a = 805 → L' a y = L a y) : TsR A' M' L' T X fr := by
  obtain ⟨h1, h2, h3, h4, h5, h6, h7⟩ := h
  refine ⟨h1, h2, h3, by rw [hA _ _ (by omega)]; exact h4, by rw [hM _ _ (by omega)]; exact h5, by rw [hM _ _ (by omega)]; exact h6, fun i hi => ?_⟩
  obtain ⟨k, us, us', mi, k1, k2, k3, k4, k5, k6, k7⟩ := h7 i hi
  refine ⟨?_, us, us', mi, by rw [hM _ _ (by omega)]; exact k1, k2, by rw [hL _ _ (by omega)]; exact k3, by rw [hL _ _ (by omega)]; exact k4, k5, k6, k7⟩
  rw [hA _ _ (by omega), hM _ _ (by omega)]
  exact k
theorem st_tasks {fu T X t fr : Nat} (hfu : 1100 ≤ fu) (ht : t ≤ 20000) : ∀ (r i q q' : Nat) (A M : mwM) (Lc Lm : mwL), i + r = T → r < q → r < q' → TsR A M Lm T X fr → A 3 16 = sI t → M 732 83 = sI t → (∀ x, x < X → CxR A M Lc Lm t x ∧ QdR A M Lc Lm x) → ∃ A' Lc' M' Lm', fX1_passMicrosecond_h56 fu q (sI i, A, Lc) = fX1_passMicrosecond_b122 fu A' Lc' ∧ fX19_microsecond_h139 fu q' (sI i, M, Lm) = fX19_microsecond_h201 fu fu (0, M', Lm') ∧ (∀ x, x < X → CxR A' M' Lc' Lm' t x ∧ QdR A' M' Lc' Lm' x) ∧ (∀ j, j < T → M' 748 j = if i ≤ j ∧ fr.testBit j = true then M 748 j + 1 else M 748 j) ∧ wkA A A' ∧ wkM X M M' ∧ wkC X Lc Lc' ∧ wkL X Lm Lm' := by
  -- the reference alone, where no more task is done
  have rest : ∀ (r i q' : Nat) (A M : mwM) (Lm : mwL), i + r = T → r < q' → TsR A M Lm T X fr → (∀ j, i ≤ j → j < T → fr.testBit j = false) → fX19_microsecond_h139 fu q' (sI i, M, Lm) = fX19_microsecond_h201 fu fu (0, M, Lm) := by
    intro r
    induction r with
    | zero =>
      intro i q' A M Lm hi hq hT hno
      obtain ⟨w, rfl⟩ : ∃ y, q' = y + 1 := ⟨q' - 1, by omega⟩
      obtain ⟨h1, h2, h3, h4, h5, h6, h7⟩ := hT
      show fX19_microsecond_i139 fu (fX19_microsecond_h139 fu w) (sI i) M Lm = _
      unfold fX19_microsecond_i139
      rw [h5, if_pos (by rw [sI_le (by omega) (by omega)]; omega)]
    | succ r ih =>
      intro i q' A M Lm hi hq hT hno
      obtain ⟨w, rfl⟩ : ∃ y, q' = y + 1 := ⟨q' - 1, by omega⟩
      have un : fX19_microsecond_h139 fu (w + 1) (sI i, M, Lm) = fX19_microsecond_i139 fu (fX19_microsecond_h139 fu w) (sI i) M Lm := rfl
      rw [un, m_done _ hT (by omega), if_neg (by rw [hno i (by omega) (by omega)]; decide)]
      exact ih (i + 1) w A M Lm (by omega) (by omega) hT (fun j j1 j2 => hno j (by omega) j2)
  intro r
  induction r with
  | zero =>
    intro i q q' A M Lc Lm hi hq hq' hT h16 h83 hX
    obtain ⟨w, rfl⟩ : ∃ y, q = y + 1 := ⟨q - 1, by omega⟩
    have hr := rest 0 i q' A M Lm hi hq' hT (fun j j1 j2 => by omega)
    refine ⟨A, Lc, M, Lm, ?_, hr, hX, fun j hj => by rw [if_neg (by omega)], fun _ _ _ => rfl, fun _ _ _ _ _ _ => rfl, fun _ _ _ => rfl, fun _ _ _ => rfl⟩
    obtain ⟨h1, h2, h3, h4, h5, h6, h7⟩ := hT
    show fX1_passMicrosecond_i56 fu (fX1_passMicrosecond_h56 fu w) (sI i) A Lc = _
    unfold fX1_passMicrosecond_i56
    by_cases c : 12 ≤ i
    · rw [if_pos (by rw [sI_lle (by decide) (by omega)]; exact c)]
    · have hp : 2 ^ T ≤ 2 ^ 12 := Nat.pow_le_pow_right (by omega) h1
      rw [if_neg (by rw [sI_lle (by decide) (by omega)]; exact c), h4, sh_i (by omega) (by omega), show i = T from by omega, Nat.div_eq_of_lt h3, if_pos (show sI 0 = 0 from rfl)]
  | succ r ih =>
    intro i q q' A M Lc Lm hi hq hq' hT h16 h83 hX
    obtain ⟨w, rfl⟩ : ∃ y, q = y + 1 := ⟨q - 1, by omega⟩
    obtain ⟨h1, h2, h3, h4, h5, h6, h7⟩ := id hT
    have hp : 2 ^ T ≤ 2 ^ 12 := Nat.pow_le_pow_right (by omega) h1
    have unA : fX1_passMicrosecond_h56 fu (w + 1) (sI i, A, Lc) = fX1_passMicrosecond_i56 fu (fX1_passMicrosecond_h56 fu w) (sI i) A Lc := rfl
    rw [unA]
    have hlt : fr / 2 ^ i < 2000000000 := Nat.lt_of_le_of_lt (Nat.div_le_self _ _) (by omega)
    by_cases z : fr / 2 ^ i = 0
    · have hno : ∀ j, i ≤ j → j < T → fr.testBit j = false := fun j j1 j2 => by
        have hf2 : fr < 2 ^ i := by
          rcases Nat.div_eq_zero_iff.mp z with w | w
          · have := Nat.pow_pos (n := i) (show 0 < 2 by omega); omega
          · exact w
        exact Nat.testBit_lt_two_pow (Nat.lt_of_lt_of_le hf2 (Nat.pow_le_pow_right (by omega) j1))
      refine ⟨A, Lc, M, Lm, ?_, rest (r + 1) i q' A M Lm hi hq' hT hno, hX, fun j hj => ?_, fun _ _ _ => rfl, fun _ _ _ _ _ _ => rfl, fun _ _ _ => rfl, fun _ _ _ => rfl⟩
      · unfold fX1_passMicrosecond_i56
        rw [if_neg (by rw [sI_lle (by decide) (by omega)]; omega), h4, sh_i (by omega) (by omega), z, if_pos (show sI 0 = 0 from rfl)]
      · rw [if_neg (fun u => by rw [hno j u.1 hj] at u; exact absurd u.2 (by decide))]
    · obtain ⟨w', rfl⟩ : ∃ y, q' = y + 1 := ⟨q' - 1, by omega⟩
      have unM : fX19_microsecond_h139 fu (w' + 1) (sI i, M, Lm) = fX19_microsecond_i139 fu (fX19_microsecond_h139 fu w') (sI i) M Lm := rfl
      rw [unM, m_done _ hT (by omega)]
      have tb : fr.testBit i = decide (fr / 2 ^ i % 2 = 1) := Nat.testBit_eq_decide_div_mod_eq
      have a1 : sI (fr / 2 ^ i) &&& 1 = sI (fr / 2 ^ i % 2) := sI_and (m := 1)
      unfold fX1_passMicrosecond_i56 fX1_passMicrosecond_b116
      rw [if_neg (show ¬ (12 : Int32) ≤ sI i by rw [sI_lle (by decide) (by omega)]; omega), h4, sh_i (by omega) (by omega), if_neg (show ¬ sI (fr / 2 ^ i) = 0 by rw [show (0 : Int32) = sI 0 from rfl, sI_eq (by omega) (by omega)]; exact z), a1]
      by_cases done : fr / 2 ^ i % 2 = 1
      · rw [if_pos (show sI (fr / 2 ^ i % 2) = 1 by rw [done]; rfl), tb, decide_eq_true done, if_pos rfl, mck_s (show i < 12 by omega) (by omega), sI_nn (show i < 2000000000 by omega)]
        rcases (h7 i (by omega)).1 with ⟨k1, k2⟩ | ⟨x, x1, k1, k2⟩
        · rw [k1, if_pos (by decide), mlet_e, sI_1, m_taskDone0 (by omega) k2, mb2_s]
          have tM : ∀ a y, ¬ (a = 748 ∧ y = i) → mset M 748 i (M 748 i + 1) a y = M a y := fun a y u => mset_n u
          obtain ⟨A', Lc', M', Lm', y1, y2, y3, y4, y5, y6, y7, y8⟩ := ih (i + 1) w w' A (mset M 748 i (M 748 i + 1)) Lc Lm (by omega) (by omega) (by omega) (TsR_f hT (fun _ _ _ => rfl) (fun a y u => tM a y (by omega)) (fun _ _ _ => rfl)) h16 (by rw [tM _ _ (by omega)]; exact h83) (fun x hx => ⟨CxR_f (hX x hx).1 (Nat.le_refl _) (fun _ _ _ _ _ => rfl) (fun a y u1 u2 u3 => tM a y (by omega)) (tM _ _ (by omega)) (fun _ _ _ => rfl) (by obtain ⟨_, _, _, _, _, q⟩ := (hX x hx).2; exact q), QdR_f (hX x hx).2 (fun _ _ _ => rfl) (fun a y u => tM a y (by omega)) (fun _ => rfl) (fun _ => rfl)⟩)
          refine ⟨A', Lc', M', Lm', y1, y2, y3, fun j hj => ?_, y5, fun a y u1 u2 u3 u4 => by rw [y6 a y u1 u2 u3 u4]; exact tM a y (by omega), y7, y8⟩
          rw [y4 j hj]
          by_cases ej : j = i
          · rw [ej, if_neg (by omega), mset_s, if_pos ⟨by omega, by rw [tb]; exact decide_eq_true done⟩]
          · rw [tM _ _ (by omega)]
            by_cases le : i + 1 ≤ j ∧ fr.testBit j = true
            · rw [if_pos le, if_pos ⟨by omega, le.2⟩]
            · rw [if_neg le, if_neg (fun u => le ⟨by omega, u.2⟩)]
        · rw [k1, if_neg (by rw [sI_ltl (by omega) (by decide)]; omega), mck_s (show i < 12 by omega) (by omega), mck_s (show x < 12 by omega) (by omega), sI_nn (show x < 2000000000 by omega), h16]
          obtain ⟨⟨va, p, nw, c1, c2, c3, c4, c5, c6, c7⟩, qn, q1, q2, q3, q4, q5⟩ := hX x x1
          have hes : ∃ es : Nat → Nat, ∀ j, j < qn → A (293 + 36 * x + 35) j = sI (es j) ∧ M 753 (16 * x + j) = sI (es j) ∧ es j < 1000 := by
            refine ⟨fun j => nn (A (293 + 36 * x + 35) j), fun j hj => ?_⟩
            obtain ⟨e1, v, v1, v2⟩ := q4 j hj
            dsimp only
            rw [← e1, v2, nn_s (by omega)]
            exact ⟨rfl, rfl, v1⟩
          obtain ⟨es, hes⟩ := hes
          obtain ⟨⟨A1, Lc1⟩, z1, z2, z3, z4, z5, z6⟩ := c_workOff (fu := fu) (t := t) (n := qn) (es := es) hfu c1 c2 ht q1 q2 (fun j hj => ⟨(hes j hj).1, (hes j hj).2.2⟩) c4
          obtain ⟨⟨M1, Lm1⟩, y1, y2, y3, y4, y5, ⟨nw', y6, y7⟩, y8, y9⟩ := m_taskDone (fu := fu) (T := i) (t := t) (n := qn) (es := es) hfu (by omega) (by omega) c1 c3 ht q1 k2 h83 q3 (fun j hj => ⟨(hes j hj).2.1, (hes j hj).2.2⟩) c5 c6 c7
          dsimp only at z2 z3 z4 z5 z6 y2 y3 y4 y5 y7 y8 y9
          rw [z1, mb2_s, y1, mb2_s, mlet_e, sI_1]
          have fA : wkA A A1 := fun a y u => z5 a y (by omega) (by omega) (by omega) (by omega)
          have fM : wkM X M M1 := fun a y u1 u2 u3 u4 => y8 a y (by omega) (by omega) (by omega) (by omega)
          have fC : wkC X Lc Lc1 := fun a y u => by rw [z6 a (by omega)]
          have fL : wkL X Lm Lm1 := fun a y u => by rw [y9 a (by omega) (by omega) (by omega)]
          have dat : Lc1 (293 + 36 * x + 34) = Lm1 (964 + 53 * x + 21) := by
            have e1 : Lc1 (293 + 36 * x + 34) = (wkZ va t qn es p).1.1.2.2 := z2.1.2.2.2.1.2.2.2.2.2
            have e2 : Lm1 (964 + 53 * x + 21) = (wkZ va t qn es p).1.1.2.2 := y2.2.2.2.1.2.2.2.2.2.1
            rw [e1, e2]
          obtain ⟨A', Lc', M', Lm', v1, v2, v3, v4, v5, v6, v7, v8⟩ := ih (i + 1) w w' A1 M1 Lc1 Lm1 (by omega) (by omega) (by omega) (TsR_f hT (fun a y u => fA a y (by omega)) (fun a y u => fM a y (by omega) (by omega) (by omega) (by omega)) (fun a y u => fL a y (by omega))) (by rw [fA _ _ (by omega)]; exact h16) (by rw [fM _ _ (by omega) (by omega) (by omega) (by omega)]; exact h83) (fun b hb => by
            by_cases eb : b = x
            · rw [eb]
              exact ⟨⟨va, wkZ va t qn es p, nw', wkZ_I c1 ht, z2, y2, z3, y3, y7, y6⟩, 0, by omega, z4, y4, fun j hj => by omega, dat⟩
            · obtain ⟨g1, g2⟩ := hX b hb
              have dz : Lc1 (293 + 36 * b + 34) = Lm1 (964 + 53 * b + 21) := by
                obtain ⟨_, _, _, _, _, q⟩ := g2
                rw [z6 _ (by omega), y9 _ (by omega) (by omega) (by omega)]
                exact q
              refine ⟨CxR_f g1 (Nat.le_refl _) (fun a y u1 u2 u3 => z5 a y (by omega) (by omega) (by omega) (by omega)) (fun a y u1 u2 u3 => y8 a y (by omega) (by omega) (by omega) (by omega)) (y8 _ _ (by omega) (by omega) (by omega) (by omega)) (fun a u1 u2 => y9 a (by omega) (by omega) (by omega)) dz, ?_⟩
              obtain ⟨qb, b1, b2, b3, b4, b5⟩ := g2
              exact ⟨qb, b1, by rw [z5 _ _ (by omega) (by omega) (by omega) (by omega)]; exact b2, by rw [y8 _ _ (by omega) (by omega) (by omega) (by omega)]; exact b3, fun j hj => by rw [z5 _ _ (by omega) (by omega) (by omega) (by omega), y8 _ _ (by omega) (by omega) (by omega) (by omega)]; exact b4 j hj, dz⟩)
          refine ⟨A', Lc', M', Lm', v1, v2, v3, fun j hj => ?_, fun a y u => by rw [v5 a y u]; exact fA a y u, fun a y u1 u2 u3 u4 => by rw [v6 a y u1 u2 u3 u4]; exact fM a y u1 u2 u3 u4, fun a y u => by rw [v7 a y u]; exact fC a y u, fun a y u => by rw [v8 a y u]; exact fL a y u⟩
          rw [v4 j hj]
          by_cases ej : j = i
          · rw [ej, if_neg (by omega), y5, if_pos ⟨by omega, by rw [tb]; exact decide_eq_true done⟩]
          · rw [y8 _ _ (by omega) (by omega) (by omega) (by omega)]
            by_cases le : i + 1 ≤ j ∧ fr.testBit j = true
            · rw [if_pos le, if_pos ⟨by omega, le.2⟩]
            · rw [if_neg le, if_neg (fun u => le ⟨by omega, u.2⟩)]
      · rw [if_neg (show ¬ sI (fr / 2 ^ i % 2) = 1 by rw [show (1 : Int32) = sI 1 from rfl, sI_eq (by omega) (by omega)]; exact done), tb, decide_eq_false done, if_neg (by decide), mlet_e, sI_1]
        obtain ⟨A', Lc', M', Lm', y1, y2, y3, y4, y5, y6, y7, y8⟩ := ih (i + 1) w w' A M Lc Lm (by omega) (by omega) (by omega) hT h16 h83 hX
        refine ⟨A', Lc', M', Lm', y1, y2, y3, fun j hj => ?_, y5, y6, y7, y8⟩
        rw [y4 j hj]
        by_cases ej : j = i
        · rw [ej, if_neg (by omega), if_neg (fun u => by rw [tb, decide_eq_false done] at u; exact absurd u.2 (by decide))]
        · by_cases le : i + 1 ≤ j ∧ fr.testBit j = true
          · rw [if_pos le, if_pos ⟨by omega, le.2⟩]
          · rw [if_neg le, if_neg (fun u => le ⟨by omega, u.2⟩)]
/-! who has waited too long -/
theorem sub_ltI {t n p : Nat} (ht : t ≤ 100000) (hn : n ≤ 100000) (hp : p ≤ 100000) : (sI t - sI n < sI p) ↔ t < n + p := by
  rw [Int32.lt_iff_toInt_lt, Int32.toInt_sub, sI_toInt (by omega), sI_toInt (by omega), sI_toInt (by omega), Int.bmod_def]
  split <;> omega
theorem sub_ltL {t n p : Nat} (ht : t ≤ 100000) (hn : n ≤ 100000) (hp : p ≤ 100000) : (lg_cmp (sL t - sL n) (sL p) < 0) ↔ t < n + p := by
  rw [lg_cmp_lt, Int64.lt_iff_toInt_lt, Int64.toInt_sub, sL_toInt (by omega), sL_toInt (by omega), sL_toInt (by omega), Int.bmod_def]
  split <;> omega
theorem st_silence {fu S W E t : Nat} {ws wc pe : Nat → Nat} {A M : mwM} {Lc Lm : mwL} (hfu : 100 ≤ fu) (hW : WtR A M Lm W S ws wc) (hS : S ≤ 40) (hT : RTr A M W E) (hE : E < 800000000) (ht : t ≤ 20000) (h83 : M 732 83 = sI t) (hp : ∀ w, w < W → A 143 w = sI (3 * pe w) ∧ M 764 (ws w) = sI (pe w) ∧ pe w ≤ 20000) : ∃ A' M' Lm' E', DX10_lookForSilence fu (sI t) A Lc = some (A', Lc) ∧ fX19_microsecond_h201 fu fu (0, M, Lm) = mb2 (DX19_transferred fu M' Lm') (fun M43 L44 => some (M43, L44)) ∧ WtR A' M' Lm' W S ws wc ∧ RTr A' M' W E' ∧ E ≤ E' ∧ E' ≤ E + 30 ∧ (∀ a y, ¬ (a = 139 ∧ (y = 3 ∨ y = 5)) → ¬ (144 ≤ a ∧ a ≤ 153) → A' a y = A a y) ∧ (∀ a y, ¬ (902 ≤ a ∧ a ≤ 920) → M' a y = M a y) ∧ ∀ a y, a ≠ 778 → Lm' a y = Lm a y := by
  unfold DX10_lookForSilence
  have key : ∀ (r w q q' : Nat) (B P : mwM) (Q : mwL) (E1 : Nat), w + r = W → r < q → r < q' → WtR B P Q W S ws wc → RTr B P W E1 → E ≤ E1 → E1 ≤ E + w → (∀ a y, ¬ (a = 139 ∧ (y = 3 ∨ y = 5)) → ¬ (144 ≤ a ∧ a ≤ 153) → B a y = A a y) → (∀ a y, ¬ (902 ≤ a ∧ a ≤ 920) → P a y = M a y) → (∀ a y, a ≠ 778 → Q a y = Lm a y) → ∃ A' M' Lm' E', fX10_lookForSilence_h2 fu (sI t) q (sI w, B, Lc) = some (A', Lc) ∧ fX19_microsecond_h201 fu q' (sI w, P, Q) = mb2 (DX19_transferred fu M' Lm') (fun M43 L44 => some (M43, L44)) ∧ WtR A' M' Lm' W S ws wc ∧ RTr A' M' W E' ∧ E ≤ E' ∧ E' ≤ E + 30 ∧ (∀ a y, ¬ (a = 139 ∧ (y = 3 ∨ y = 5)) → ¬ (144 ≤ a ∧ a ≤ 153) → A' a y = A a y) ∧ (∀ a y, ¬ (902 ≤ a ∧ a ≤ 920) → M' a y = M a y) ∧ ∀ a y, a ≠ 778 → Lm' a y = Lm a y := by
    intro r
    induction r with
    | zero =>
      intro w q q' B P Q E1 hw hq hq' kW kT k1 k2 fA fM fL
      obtain ⟨x, rfl⟩ : ∃ y, q = y + 1 := ⟨q - 1, by omega⟩
      obtain ⟨x', rfl⟩ : ∃ y, q' = y + 1 := ⟨q' - 1, by omega⟩
      obtain ⟨w1, w2, w3, w4⟩ := id kW
      refine ⟨B, P, Q, E1, ?_, ?_, kW, kT, k1, by omega, fA, fM, fL⟩
      · show fX10_lookForSilence_i2 fu (sI t) (fX10_lookForSilence_h2 fu (sI t) x) (sI w) B Lc = _
        unfold fX10_lookForSilence_i2
        rw [w1, if_pos (by rw [sI_le (by omega) (by omega)]; omega)]
      · show fX19_microsecond_i201 fu (fX19_microsecond_h201 fu x') (sI w) P Q = _
        unfold fX19_microsecond_i201
        rw [w2, if_pos (by rw [sI_le (by omega) (by omega)]; omega)]
    | succ r ih =>
      intro w q q' B P Q E1 hw hq hq' kW kT k1 k2 fA fM fL
      obtain ⟨x, rfl⟩ : ∃ y, q = y + 1 := ⟨q - 1, by omega⟩
      obtain ⟨x', rfl⟩ : ∃ y, q' = y + 1 := ⟨q' - 1, by omega⟩
      obtain ⟨w1, w2, w3, w4⟩ := id kW
      obtain ⟨a1, a2, a3, a4, a5, a6, a7, nt, a8, a9, a10⟩ := w4 w (by omega)
      obtain ⟨p1, p2, p3⟩ := hp w (by omega)
      have b143 : B 143 w = sI (3 * pe w) := by rw [fA _ _ (by omega) (by omega)]; exact p1
      have p764 : P 764 (ws w) = sI (pe w) := by rw [fM _ _ (by omega)]; exact p2
      have p83 : P 732 83 = sI t := by rw [fM _ _ (by omega)]; exact h83
      have unA : fX10_lookForSilence_h2 fu (sI t) (x + 1) (sI w, B, Lc) = fX10_lookForSilence_i2 fu (sI t) (fX10_lookForSilence_h2 fu (sI t) x) (sI w) B Lc := rfl
      have unM : fX19_microsecond_h201 fu (x' + 1) (sI w, P, Q) = fX19_microsecond_i201 fu (fX19_microsecond_h201 fu x') (sI w) P Q := rfl
      rw [unA, unM]
      unfold fX10_lookForSilence_i2 fX10_lookForSilence_b37 fX19_microsecond_i201 fX19_microsecond_b268
      have e3 : (3 : Int64) * sL (pe w) = sL (3 * pe w) := sL_mul (a := 3)
      rw [w1, if_neg (show ¬ sI W ≤ sI w by rw [sI_le (by omega) (by omega)]; omega), w2, if_neg (show ¬ sI W ≤ sI w by rw [sI_le (by omega) (by omega)]; omega)]
      simp (disch := omega) only [mck_s, sI_nn, mlet_e]
      rw [a9, b143, a10, a2, p83, sI_L (by omega), mck_s (show ws w < 40 by omega) (by omega), sI_nn (show ws w < 2000000000 by omega), p764, sI_L (show pe w < 2000000000 by omega), e3, sI_1, a7]
      by_cases c : t < nt + 3 * pe w
      · rw [if_pos ((sub_ltI (by omega) (by omega) (by omega)).mpr c), if_pos ((sub_ltL (by omega) (by omega) (by omega)).mpr c)]
        exact ih (w + 1) x x' B P Q E1 (by omega) (by omega) (by omega) kW kT k1 (by omega) fA fM fL
      · rw [if_neg (fun u => c ((sub_ltI (by omega) (by omega) (by omega)).mp u)), if_neg (fun u => c ((sub_ltL (by omega) (by omega) (by omega)).mp u))]
        obtain ⟨B1, rv, P1, z1, z2, z3, z4, z5, z6⟩ := st_failed (fu := fu) (L := Lc) (L2 := mset Q 778 w (sL t)) (tm := sI t) (i := w) (by omega) (by omega) (by omega) kT
        rw [z1, z2, mb2_s, mb3_s]
        refine ih (w + 1) x x' B1 P1 _ (E1 + 1) (by omega) (by omega) (by omega) ⟨?_, ?_, w3, fun v hv => ?_⟩ z3 (by omega) (by omega) (fun a y u1 u2 => by rw [z5 a y u1 (by omega) (by omega)]; exact fA a y u1 u2) (fun a y u => by rw [z6 a y u]; exact fM a y u) (fun a y u => by rw [mset_n (by omega)]; exact fL a y u)
        · rw [z5 _ _ (by omega) (by omega) (by omega)]; exact w1
        · rw [z6 _ _ (by omega)]; exact w2
        · obtain ⟨v1, v2, v3, v4, v5, v6, v7, nt', v8, v9, v10⟩ := w4 v hv
          refine ⟨by rw [z5 _ _ (by omega) (by omega) (by omega)]; exact v1, by rw [z6 _ _ (by omega)]; exact v2, v3, by rw [z5 _ _ (by omega) (by omega) (by omega)]; exact v4, by rw [z6 _ _ (by omega)]; exact v5, v6, by rw [z6 _ _ (by omega)]; exact v7, ?_⟩
          by_cases ev : v = w
          · rw [ev]
            exact ⟨t, ht, z4, by rw [mset_s]⟩
          · exact ⟨nt', v8, by rw [z5 _ _ (by omega) (by omega) (by omega)]; exact v9, by rw [mset_n (by omega)]; exact v10⟩
  obtain ⟨w1, w2, w3, w4⟩ := id hW
  exact key W 0 fu fu A M Lm E (by omega) (by omega) (by omega) hW hT (by omega) (by omega) (fun _ _ _ _ => rfl) (fun _ _ _ => rfl) (fun _ _ _ => rfl)
/-! behind the transfer's tick -/
theorem tk_n {t i j : Nat} {p : PB} (h : (i = 0 ∧ (j = 0 ∨ j = 2)) ∨ i = 1 ∨ i = 2) : (tkP t p).1 i j = p.1 i j := by
  rw [tk_r (by omega) (by omega), gA_r (by omega) (by omega) (by omega), bA_r (by omega) (by omega) (by omega) (by omega)]
/-- what is on its way stays so -/
theorem ob_k {p p' : PB} (h : Kp p p') (h2 : p'.1 0 2 = p.1 0 2) (hle : p.1 0 2 ≤ p.1 0 1) (h1 : ∀ m, p'.1 1 m = p.1 1 m) : obL p'.1 p'.2 = obL p.1 p.2 ∧ ∀ f, f < p.1 0 1 → idO p'.1 p'.2 f = idO p.1 p.2 f := by
  obtain ⟨a1, a2, a3, a4, a5⟩ := h
  constructor
  · unfold obL
    rw [h2]
    refine List.filter_congr (fun g hg => ?_)
    rw [a3 g (by have := List.mem_range.mp hg; omega)]
  · intro f hf
    unfold idO toT
    rw [a2 11 f (by omega) (by omega) hf, a2 10 f (by omega) (by omega) hf, h1, a5]
/-- behind the tick -/
theorem TfN_tk {M M' : mwM} {t : Nat} {p : PB} {e e' : Nat → Nat} (hv : TfV p.1 p.2) (h : TfN M p.1 p.2 e) (ht : t = p.1 0 3 + 1) (h03 : (tkP t p).1 0 3 = t) (hR : eR 208 e p.2 e' (tkP t p).2) (hM : ∀ a y, (a = 732 ∧ (y = 88 ∨ (91 ≤ y ∧ y ≤ 96))) ∨ (927 ≤ a ∧ a ≤ 930) → M' a y = M a y) : TfN M' (tkP t p).1 (tkP t p).2 e' := by
  have h' := TfN_fr h hM
  obtain ⟨k1, k2, k3, ⟨en, k4, k5, k6⟩, k7, k8, k9, k10⟩ := h'
  obtain ⟨r1, r2, r3, r4⟩ := hR
  have hk := Kp_tk (t := t) (p := p)
  obtain ⟨o1, o2⟩ := ob_k hk (tk_n (by omega)) hv.1.2.1 (fun m => tk_n (by omega))
  have n0 : (tkP t p).1 0 0 = p.1 0 0 := tk_n (by omega)
  have n2 : (tkP t p).1 0 2 = p.1 0 2 := tk_n (by omega)
  refine ⟨by rw [n0]; exact k1, fun m m1 m2 => ?_, by rw [r1]; exact k3, ⟨en, k4, by omega, ?_⟩, by rw [n2]; exact k7, by rw [o1]; exact k8, ?_, ?_⟩
  · rw [n0] at m2
    rw [tk_n (by omega), hk.2.2.2.2 m]
    exact k2 m m1 m2
  · rw [r4, k6]
    by_cases c1 : en < eS e
    · rw [decide_eq_true c1, decide_eq_true (by omega : en < eS e')]
      rfl
    · rw [decide_eq_false c1]
      by_cases c2 : eS e < eS e'
      · rw [decide_eq_true c2, decide_eq_true (by omega : en < eS e')]
        rfl
      · rw [decide_eq_false c2, decide_eq_false (by omega : ¬ en < eS e')]
        rfl
  · rw [o1]
    intro k hk'
    have hmem : (obL p.1 p.2)[k] ∈ obL p.1 p.2 := List.getElem_mem _
    obtain ⟨f1, f2⟩ := ob_mem.mp hmem
    rw [o2 _ (by have := hv.1.2.1; omega)]
    exact k9 k hk'
  · rw [o1, n2, h03, r1]
    omega
/-! a frame of the transfer goes on the bus -/
theorem ob_nx {n : Nat → Nat → Nat} {b : Nat → Nat → Bool} {h : Nat} : obL (mset n 0 2 (h + 1)) b = if b 1 h = false then obL (mset n 0 2 h) b ++ [h] else obL (mset n 0 2 h) b := by
  unfold obL
  rw [mset_s, mset_s, List.range_succ, List.filter_append]
  cases hb : b 1 h with
  | false => rw [if_pos rfl]; congr 1; simp [hb]
  | true => rw [if_neg (by decide)]; simp [hb]
theorem id_h {n : Nat → Nat → Nat} {b : Nat → Nat → Bool} {h f : Nat} : idO (mset n 0 2 h) b f = idO n b f := by
  unfold idO toT
  rw [mset_n (by omega), mset_n (by omega), mset_n (by omega)]
theorem wr_lt {n o : Nat → Nat → Nat} {f i : Nat} (hk : n 10 f ≤ 3) (ho : ∀ j, j < n 2 (n 11 f) → o (n 11 f) j < 256) : wrO n o f i < 256 := by
  cases i with
  | zero =>
    show 16 * n 10 f + (if n 10 f = 1 then n 2 (n 11 f) else n 12 f) % 16 < 256
    have : (if n 10 f = 1 then n 2 (n 11 f) else n 12 f) % 16 < 16 := Nat.mod_lt _ (by omega)
    omega
  | succ i =>
    show (if i < moO (n 10 f) ∧ frO (n 10 f) (n 12 f) + i < n 2 (n 11 f) then o (n 11 f) (frO (n 10 f) (n 12 f) + i) else 0) < 256
    split
    · next h => exact ho _ h.2
    · omega
/-- the reference writes the octets of a frame -/
theorem m_oct97 {fu f h C : Nat} {v2 : Int32} {M : mwM} {L : mwL} {τ : Nat} {n : Nat → Nat → Nat} {b : Nat → Nat → Bool} {o : Nat → Nat → Nat} {e : Nat → Nat} (r23 : (Int32 × mwM × mwL) → Option (mwM × mwL)) (hfu : 20 ≤ fu) (hv : TfV n b) (hM : TfM M L τ n b o e) (hf : f < n 0 1) (h94 : M 732 94 = sI (f + 1)) (h0 : M 926 0 = sI (wrO n o f 0)) : ∃ M', fX19_transferred_h97 fu r23 fu (v2, sI (n 10 f), sI (n 11 f), 1, M, L) = fX19_transferred_i97 fu r23 (fun _ => none) v2 (sI (n 10 f)) (sI (n 11 f)) 8 M' L ∧ (∀ i, i < 8 → M' 926 i = sI (wrO n o f i)) ∧ ∀ a y, a ≠ 926 → ¬ (a = 869 ∧ y = 0) → M' a y = M a y := by
  obtain ⟨T, hT⟩ : ∃ T : mwM → Option (mwM × mwL), ∀ B, T B = fX19_transferred_i97 fu r23 (fun _ => none) v2 (sI (n 10 f)) (sI (n 11 f)) 8 B L := ⟨_, fun _ => rfl⟩
  obtain ⟨g1, g2, g3, _⟩ := hv.2.2.2 f hf
  have key : ∀ (r j q : Nat) (B : mwM), j + r = 8 → r < q → 1 ≤ j → (∀ i, i < j → B 926 i = sI (wrO n o f i)) → (∀ a y, a ≠ 926 → ¬ (a = 869 ∧ y = 0) → B a y = M a y) → ∃ M', fX19_transferred_h97 fu r23 q (v2, sI (n 10 f), sI (n 11 f), sI j, B, L) = T M' ∧ (∀ i, i < 8 → M' 926 i = sI (wrO n o f i)) ∧ ∀ a y, a ≠ 926 → ¬ (a = 869 ∧ y = 0) → M' a y = M a y := by
    intro r
    induction r with
    | zero =>
      intro j q B hj hq j1 k1 k2
      obtain ⟨q', rfl⟩ : ∃ y, q = y + 1 := ⟨q - 1, by omega⟩
      refine ⟨B, ?_, fun i hi => k1 i (by omega), k2⟩
      have ej : j = 8 := by omega
      subst ej
      rw [hT]
      show fX19_transferred_i97 fu r23 (fX19_transferred_h97 fu r23 q') v2 (sI (n 10 f)) (sI (n 11 f)) 8 B L = _
      unfold fX19_transferred_i97
      rw [if_pos (show (8 : Int32) ≤ 8 by decide), if_pos (show (8 : Int32) ≤ 8 by decide)]
    | succ r ih =>
      intro j q B hj hq j1 k1 k2
      obtain ⟨q', rfl⟩ : ∃ y, q = y + 1 := ⟨q - 1, by omega⟩
      have un : fX19_transferred_h97 fu r23 (q' + 1) (v2, sI (n 10 f), sI (n 11 f), sI j, B, L) = fX19_transferred_i97 fu r23 (fX19_transferred_h97 fu r23 q') v2 (sI (n 10 f)) (sI (n 11 f)) (sI j) B L := rfl
      have hMB : TfM B L τ n b o e := TfM_fr hM (fun a y u1 u2 u3 u4 => k2 a y (by omega) (by omega)) (fun _ _ _ _ => rfl)
      have b94 : B 732 94 = sI (f + 1) := by rw [k2 _ _ (by omega) (by omega)]; exact h94
      have fin : ∀ B1 : mwM, (∀ a y, ¬ (a = 869 ∧ y = 0) → B1 a y = B a y) → ∃ M', fX19_transferred_b177 fu r23 (fX19_transferred_h97 fu r23 q') v2 (sI (n 10 f)) (sI (n 11 f)) (sI j) (sI j) (sI (wrO n o f j)) B1 L = T M' ∧ (∀ i, i < 8 → M' 926 i = sI (wrO n o f i)) ∧ ∀ a y, a ≠ 926 → ¬ (a = 869 ∧ y = 0) → M' a y = M a y := by
        intro B1 hB1
        unfold fX19_transferred_b177
        rw [mck_s (by omega) (by omega), mlet_e, mlet_e, sI_nn (by omega), sI_1]
        refine ih (j + 1) q' _ (by omega) (by omega) (by omega) (fun i hi => ?_) (fun a y u1 u2 => by rw [mset_n (by omega), hB1 a y u2]; exact k2 a y u1 u2)
        by_cases ei : i = j
        · rw [ei, mset_s]
        · rw [mset_n (by omega), hB1 _ _ (by omega)]
          exact k1 i (by omega)
      rw [un]
      unfold fX19_transferred_i97
      rw [if_neg (show ¬ (8 : Int32) ≤ sI j by rw [sI_lle (by decide) (by omega)]; omega), b94]
      by_cases k3 : n 10 f = 3
      · have w0 : wrO n o f j = 0 := by
          obtain ⟨i, rfl⟩ : ∃ i, j = i + 1 := ⟨j - 1, by omega⟩
          show (if i < moO (n 10 f) ∧ frO (n 10 f) (n 12 f) + i < n 2 (n 11 f) then o (n 11 f) (frO (n 10 f) (n 12 f) + i) else 0) = 0
          rw [if_neg]
          intro w
          have := w.1
          rw [k3] at this
          unfold moO at this
          rw [if_pos rfl] at this
          omega
        rw [w0] at fin
        rw [if_pos (show sI (n 10 f) = 3 by rw [k3]; rfl)]
        by_cases c1 : j = 1
        · have fa := m_frameA (fu := fu) (w := 3) hv hMB hf (by omega) (by omega)
          have co0 : coO n f = 0 := by unfold coO; rw [if_neg (by omega), if_neg (by omega), if_pos k3]
          rw [if_neg (by omega), if_neg (by omega), if_neg (by omega), if_pos rfl, co0] at fa
          have fa' : DX17_frame fu (sI (f + 1)) 3 B L = some (sI 0, mset B 869 0 0, L) := fa
          rw [if_pos (show sI j = 1 by rw [c1]; rfl), fa', mb3_s]
          exact fin _ (fun a y u => mset_n u)
        · rw [if_neg (show ¬ sI j = 1 by rw [show (1 : Int32) = sI 1 from rfl, sI_eq (by omega) (by omega)]; exact c1)]
          by_cases c2 : j = 2
          · have fa := m_frameA (fu := fu) (w := 5) hv hMB hf (by omega) (by omega)
            rw [if_neg (by omega), if_neg (by omega), if_neg (by omega), if_neg (by omega)] at fa
            have fa' : DX17_frame fu (sI (f + 1)) 5 B L = some (sI 0, mset B 869 0 0, L) := fa
            rw [if_pos (show sI j = 2 by rw [c2]; rfl), fa', mb3_s]
            exact fin _ (fun a y u => mset_n u)
          · rw [if_neg (show ¬ sI j = 2 by rw [show (2 : Int32) = sI 2 from rfl, sI_eq (by omega) (by omega)]; exact c2)]
            exact fin B (fun _ _ _ => rfl)
      · rw [if_neg (show ¬ sI (n 10 f) = 3 by rw [show (3 : Int32) = sI 3 from rfl, sI_eq (by omega) (by omega)]; exact k3)]
        have fo := m_frameO (fu := fu) (i := j - 1) hv hMB hf (by omega) k3
        rw [show 8 + (j - 1) = 7 + j from by omega, show j - 1 + 1 = j from by omega] at fo
        rw [sI_lad, fo, mb3_s]
        exact fin _ (fun a y u => mset_n u)
  obtain ⟨M', z1, z2, z3⟩ := key 7 1 fu M (by omega) (by omega) (by omega) (fun i hi => by rw [show i = 0 from by omega]; exact h0) (fun _ _ _ _ => rfl)
  rw [hT] at z1
  exact ⟨M', z1, z2, z3⟩
/-! a frame of the transfer goes on the bus: both sides -/
theorem st_putf {fu f C t : Nat} {τ : Nat} {p : PB} {o : Nat → Nat → Nat} {e ec tc fl : Nat → Nat} {A M : mwM} {Lc Lm : mwL} (r23 : (Int32 × mwM × mwL) → Option (mwM × mwL)) (hfu : 300 ≤ fu) (hv : TfV p.1 p.2) (hC : TfC A p.1 p.2 o) (hM : TfM M Lm τ p.1 p.2 o e) (hN : TfN M (mset p.1 0 2 f) p.2 e) (hf : f < p.1 0 1) (hg : p.2 1 f = false) (hB : BusE A M (C + 1) t ec tc fl) (h13 : A 3 13 = sI C) (h19 : M 732 19 = sI C) (hC6 : C ≤ 6) (hC1 : ∀ m, 1 ≤ m → m ≤ p.1 0 0 → p.1 1 m < C) (h0 : A 292 0 = M 939 0) : ∃ (A' M' : mwM) (b' : Nat → Nat → Bool), DX1_putOnBus fu (sI f) A Lc = some (A', Lc) ∧ fX19_transferred_i23 fu r23 (sI (p.1 0 1)) M Lm = r23 (sI (p.1 0 1), M', Lm) ∧ TfV p.1 b' ∧ TfC A' p.1 b' o ∧ TfM M' Lm τ p.1 b' o e ∧ TfN M' (mset p.1 0 2 (f + 1)) b' e ∧ (b' = p.2 ∨ b' = mset p.2 1 f true) ∧ BusE A' M' (C + 1) t ec tc fl ∧ A' 292 0 = M' 939 0 ∧ (∀ a y, ¬ (20 ≤ a ∧ a ≤ 60) → ¬ (273 ≤ a ∧ a ≤ 274) → ¬ (a = 292 ∧ y = 0) → A' a y = A a y) ∧ ∀ a y, ¬ (a = 732 ∧ (y = 91 ∨ y = 94)) → ¬ (821 ≤ a ∧ a ≤ 853) → a ≠ 869 → a ≠ 898 → a ≠ 926 → ¬ (929 ≤ a ∧ a ≤ 930) → ¬ (a = 939 ∧ y = 0) → M' a y = M a y := by
  have hF := Tf_F hv
  have hK := hv.1.1
  obtain ⟨n1, n2, n3, n4, n5, n6, n7, n8⟩ := id hN
  rw [mset_s] at n5
  obtain ⟨g1, g2, g3, _⟩ := hv.2.2.2 f hf
  have hc := hC1 _ g2 g3
  have hm2 : ∀ j, j < p.1 2 (p.1 11 f) → o (p.1 11 f) j < 256 := fun j hj => by
    obtain ⟨q2, _⟩ := hM.2.2.1 _ g2 g3
    exact (q2 j hj).2
  obtain ⟨m927, m928⟩ := n2 (p.1 11 f) g2 (by rw [mset_n (by omega)]; exact g3)
  rw [mset_n (by omega)] at m927
  have hol : (obL (mset p.1 0 2 f) p.2).length ≤ 1600 := by
    have := ob_len (n := mset p.1 0 2 f) (b := p.2)
    rw [mset_s] at this
    omega
  -- the class writes
  obtain ⟨⟨A1, L1⟩, w1, w2, w3, w4⟩ := c_writeOctets (fu := fu) (L := Lc) (by omega) hv hC hf
  dsimp only at w2 w3 w4
  subst w2
  -- the reference writes
  generalize hP0 : mset M 732 94 (sI (f + 1)) = P0
  have tP0 : ∀ a y, ¬ (a = 732 ∧ y = 94) → P0 a y = M a y := fun a y u => by rw [← hP0, mset_n u]
  have p94 : P0 732 94 = sI (f + 1) := by rw [← hP0, mset_s]
  have M0 : TfM P0 Lm τ p.1 p.2 o e := TfM_fr hM (fun a y u1 u2 u3 u4 => tP0 a y (by omega)) (fun _ _ _ _ => rfl)
  generalize hP1 : mset P0 869 0 0 = P1
  have tP1 : ∀ a y, ¬ (a = 869 ∧ y = 0) → P1 a y = P0 a y := fun a y u => by rw [← hP1, mset_n u]
  have M1 : TfM P1 Lm τ p.1 p.2 o e := TfM_fr M0 (fun a y u1 u2 u3 u4 => tP1 a y (by omega)) (fun _ _ _ _ => rfl)
  have p1i : mset P1 869 0 0 = P1 := by rw [← hP1, mset_ii]
  have p94' : P1 732 94 = sI (f + 1) := by rw [tP1 _ _ (by omega)]; exact p94
  have f0 := m_frameA (fu := fu) (w := 0) hv M0 hf (by omega) (by omega)
  have f1 := m_frameA (fu := fu) (w := 1) hv M1 hf (by omega) (by omega)
  have f2 := m_frameA (fu := fu) (w := 2) hv M1 hf (by omega) (by omega)
  rw [if_pos rfl, hP1] at f0
  rw [if_neg (by omega), if_pos rfl, p1i] at f1
  rw [if_neg (by omega), if_neg (by omega), if_pos rfl, p1i] at f2
  have f0' : DX17_frame fu (sI (f + 1)) 0 P0 Lm = some (sI (p.1 10 f), P1, Lm) := f0
  have f1' : DX17_frame fu (sI (f + 1)) 1 P1 Lm = some (sI (p.1 11 f), P1, Lm) := f1
  have f2' : DX17_frame fu (sI (f + 1)) 2 P1 Lm = some (sI (nuO p.1 f), P1, Lm) := f2
  have hnu : nuO p.1 f < 2000000000 := by
    unfold nuO
    split
    · have := (hv.2.1 _ g2 g3).2.2.1; omega
    · obtain ⟨_, _, _, _, _, _, z1, z2, _⟩ := hv.2.2.2 f hf
      by_cases c : p.1 10 f = 2
      · have := z1 c; have := (hv.2.1 _ g2 g3).2.2.1; omega
      · have := z2 c; omega
  have e0 : (0 : Int32).toNatClampNeg = 0 := rfl
  have oct0 : sI (p.1 10 f) * 16 + (sI (nuO p.1 f) - sI (nuO p.1 f) / 16 * 16) = sI (wrO p.1 o f 0) := by
    have e1 : sI (p.1 10 f) * 16 = sI (p.1 10 f * 16) := sI_mul (b := 16)
    have e2 : sI (nuO p.1 f) - sI (nuO p.1 f) / 16 * 16 = sI (nuO p.1 f % 16) := sI_mod (b := 16) hnu (by omega)
    rw [e1, e2, sI_add, Nat.mul_comm]
    rfl
  generalize hP2 : mset P1 926 0 (sI (wrO p.1 o f 0)) = P2
  have tP2 : ∀ a y, ¬ (a = 926 ∧ y = 0) → P2 a y = P1 a y := fun a y u => by rw [← hP2, mset_n u]
  have M2 : TfM P2 Lm τ p.1 p.2 o e := TfM_fr M1 (fun a y u1 u2 u3 u4 => tP2 a y (by omega)) (fun _ _ _ _ => rfl)
  obtain ⟨P3, x1, x2, x3⟩ := m_oct97 (fu := fu) (h := 0) (C := 0) (v2 := sI (p.1 0 1)) (L := Lm) r23 (by omega) hv M2 hf (by rw [tP2 _ _ (by omega)]; exact p94') (by rw [← hP2, mset_s])
  have M3 : TfM P3 Lm τ p.1 p.2 o e := TfM_fr M2 (fun a y u1 u2 u3 u4 => x3 a y (by omega) (by omega)) (fun _ _ _ _ => rfl)
  have tP3 : ∀ a y, ¬ (a = 732 ∧ y = 94) → ¬ (a = 869 ∧ y = 0) → a ≠ 926 → P3 a y = M a y := fun a y u1 u2 u3 => by rw [x3 a y u3 u2, tP2 a y (by omega), tP1 a y u2, tP0 a y u1]
  have q94 : P3 732 94 = sI (f + 1) := by rw [x3 _ _ (by omega) (by omega), tP2 _ _ (by omega)]; exact p94'
  have eR1 : fX19_transferred_i23 fu r23 (sI (p.1 0 1)) M Lm = fX19_transferred_i97 fu r23 (fun _ => none) (sI (p.1 0 1)) (sI (p.1 10 f)) (sI (p.1 11 f)) 8 P3 Lm := by
    unfold fX19_transferred_i23
    rw [n5, if_neg (show ¬ sI (p.1 0 1) ≤ sI f by rw [sI_le (by omega) (by omega)]; omega), mlet_e, sI_1, hP0, p94, f0', mb3_s, p94', f1', mb3_s, p94', f2', mb3_s, mlet_e, e0, oct0, hP2]
    exact x1
  -- who sends, to whom
  have hid : idO p.1 p.2 f = 1536 + 2 * p.1 1 (p.1 11 f) + (if toT p.1 p.2 f = true then 1 else 0) := rfl
  have eR2 : fX19_transferred_i97 fu r23 (fun _ => none) (sI (p.1 0 1)) (sI (p.1 10 f)) (sI (p.1 11 f)) 8 P3 Lm = mb3 (DX19_put fu (sI (if toT p.1 p.2 f = true then p.1 1 (p.1 11 f) else C)) (sI (idO p.1 p.2 f)) (sI (f + 1)) P3 Lm) (fun r42 M40 L41 => (if r42 = 0 then mb3 (DX17_lose fu (M40 732 94) M40 L41) (fun r46 M44 L45 => r23 (sI (p.1 0 1), M44, L45)) else r23 (sI (p.1 0 1), M40, L41))) := by
    have q928 : P3 928 (p.1 11 f) = bI (p.2 0 (p.1 11 f)) := by rw [tP3 _ _ (by omega) (by omega) (by omega)]; exact m928
    have q927 : P3 927 (p.1 11 f) = sI (p.1 1 (p.1 11 f)) := by rw [tP3 _ _ (by omega) (by omega) (by omega)]; exact m927
    have q19 : P3 732 19 = sI C := by rw [tP3 _ _ (by omega) (by omega) (by omega)]; exact h19
    have b214 : ∀ s : Bool, s = !toT p.1 p.2 f → fX19_transferred_b214 fu r23 (sI (p.1 0 1)) (sI (p.1 11 f)) (bI s) P3 Lm = mb3 (DX19_put fu (sI (if toT p.1 p.2 f = true then p.1 1 (p.1 11 f) else C)) (sI (idO p.1 p.2 f)) (sI (f + 1)) P3 Lm) (fun r42 M40 L41 => (if r42 = 0 then mb3 (DX17_lose fu (M40 732 94) M40 L41) (fun r46 M44 L45 => r23 (sI (p.1 0 1), M44, L45)) else r23 (sI (p.1 0 1), M40, L41))) := by
      intro s hs
      unfold fX19_transferred_b214 fX19_transferred_b235 fX19_transferred_b263 fX19_transferred_b287
      rw [mck_s (show p.1 11 f < 101 by omega) (by omega), mck_s (show p.1 11 f < 101 by omega) (by omega), sI_nn (show p.1 11 f < 2000000000 by omega), q927, q19, q94, sI_lml, sI_lad, hid]
      cases htt : toT p.1 p.2 f with
      | true =>
        rw [htt] at hs
        rw [hs]
        rw [show bI (!true) = 0 from rfl, if_pos (show (0 : Int32) = 0 from rfl), if_pos (show (0 : Int32) = 0 from rfl), if_pos (show true = true from rfl), if_pos (show true = true from rfl), sI_1]
      | false =>
        rw [htt] at hs
        rw [hs]
        rw [show bI (!false) = 1 from rfl, if_neg (show ¬ (1 : Int32) = 0 by decide), if_neg (show ¬ (1 : Int32) = 0 by decide), if_neg (show ¬ false = true by decide), if_neg (show ¬ false = true by decide), show (0 : Int32) = sI 0 from rfl, sI_add, mck_s (show p.1 11 f < 101 by omega) (by omega)]
    unfold fX19_transferred_i97
    rw [if_pos (show (8 : Int32) ≤ 8 by decide), mck_s (show p.1 11 f < 101 by omega) (by omega), mck_s (show p.1 11 f < 101 by omega) (by omega), sI_nn (show p.1 11 f < 2000000000 by omega), q928]
    by_cases k3 : p.1 10 f = 3
    · rw [if_pos (show sI (p.1 10 f) = 3 by rw [k3]; rfl)]
      have et : toT p.1 p.2 f = p.2 0 (p.1 11 f) := by
        unfold toT
        rw [decide_eq_true k3]
        cases p.2 0 (p.1 11 f) <;> rfl
      cases hb0 : p.2 0 (p.1 11 f) with
      | false =>
        rw [bI_f, if_pos (show (0 : Int32) = 0 from rfl)]
        exact b214 true (by rw [et, hb0]; rfl)
      | true =>
        rw [bI_t, if_neg (show ¬ (1 : Int32) = 0 by decide)]
        exact b214 false (by rw [et, hb0]; rfl)
    · rw [if_neg (show ¬ sI (p.1 10 f) = 3 by rw [show (3 : Int32) = sI 3 from rfl, sI_eq (by omega) (by omega)]; exact k3)]
      refine b214 _ ?_
      unfold toT
      rw [decide_eq_false k3]
      cases p.2 0 (p.1 11 f) <;> rfl
  have eC : DX1_putOnBus fu (sI f) A L1 = mb3 (DX0_send fu (sI (if toT p.1 p.2 f = true then p.1 1 (p.1 11 f) else C)) (sI (idO p.1 p.2 f)) 274 8 A1 L1) (fun r11 M9 L10 => (if r11 = 0 then mlet (mset M9 292 0 ((M9 292 0) + 1)) (fun M15 => mb2 (DX9_lose fu (sI f) M15 L10) (fun M16 L17 => some (M16, L17))) else some (M9, L10))) := by
    have a13 : A1 3 13 = sI C := by rw [w4 _ _ (by omega)]; exact h13
    unfold DX1_putOnBus fX1_putOnBus_b16 fX1_putOnBus_b42 fX1_putOnBus_b69 fX1_putOnBus_b102
    rw [c_isToTester hC hv hf, mb3_s, c_controllerOf hC hv hf, mb3_s, mb3_s, sI_lml, sI_lad, e0, hid]
    cases htt : toT p.1 p.2 f with
    | true =>
      rw [bI_t, if_neg (show ¬ (1 : Int32) = 0 by decide), if_pos (show (0 : Int32) = 0 from rfl), mlet_e, w1, mb2_s, if_pos (show (0 : Int32) = 0 from rfl), if_pos (show true = true from rfl), if_pos (show true = true from rfl), sI_1]
    | false =>
      rw [bI_f, if_pos (show (0 : Int32) = 0 from rfl), if_neg (show ¬ (1 : Int32) = 0 by decide), mlet_e, w1, mb2_s, if_neg (show ¬ (1 : Int32) = 0 by decide), if_neg (show ¬ false = true by decide), if_neg (show ¬ false = true by decide), a13]
      congr 2
      rw [show (0 : Int32) = sI 0 from rfl, sI_add]
  have hBE := hB
  obtain ⟨F, ow, id', oc, dn, asl, hB'⟩ := hB
  have hB1 : BusR A1 P3 (C + 1) t F ow id' oc dn ec tc fl asl := BusR_fr hB' (fun a y u1 u2 => w4 a y (by omega)) (fun a y u1 u2 u3 => tP3 a y (by omega) (by omega) (by omega))
  have q91 : P3 732 91 = sI (obL (mset p.1 0 2 f) p.2).length := by rw [tP3 _ _ (by omega) (by omega) (by omega)]; exact n6
  have idb : idO p.1 p.2 f < 2048 := by rw [hid]; split <;> omega
  obtain ⟨r, A2, M2', s1, s2, s3, s4, s5⟩ := st_send (fu := fu) (n := if toT p.1 p.2 f = true then p.1 1 (p.1 11 f) else C) (ident := idO p.1 p.2 f) (row := 274) (n3 := 8) (fr := f + 1) (ob := (obL (mset p.1 0 2 f) p.2).length) (q := wrO p.1 o f) (Lc := L1) (Lm := Lm) (by omega) hB1 (by split <;> omega) idb (fun i hi => ⟨wr_lt g1 hm2, w3 i hi, x2 i hi⟩) (by omega) (by omega) (by omega) (by omega) q91 (by omega)
  obtain ⟨en, n4a, n4b, n4c⟩ := n4
  rw [eC, s1, mb3_s, eR1, eR2, s2, mb3_s]
  have h02 : ∀ h : Nat, mset p.1 0 2 h 0 0 = p.1 0 0 := fun h => mset_n (by omega)
  have h03 : ∀ h : Nat, mset p.1 0 2 h 0 3 = p.1 0 3 := fun h => mset_n (by omega)
  rw [mset_s, h03] at n8
  cases r with
  | true =>
    obtain ⟨B2, v1, v2, v3⟩ := s5 rfl
    obtain ⟨v4, v5, v6, v7⟩ := v3 (by omega)
    have fA : ∀ a y, ¬ (20 ≤ a ∧ a ≤ 60) → ¬ (273 ≤ a ∧ a ≤ 274) → ¬ (a = 292 ∧ y = 0) → A2 a y = A a y := fun a y u1 u2 u3 => by rw [v1 a y (by omega) (by omega) (by omega), w4 a y (by omega)]
    have fM : ∀ a y, ¬ (a = 732 ∧ (y = 91 ∨ y = 94)) → ¬ (821 ≤ a ∧ a ≤ 853) → a ≠ 869 → a ≠ 898 → a ≠ 926 → ¬ (929 ≤ a ∧ a ≤ 930) → ¬ (a = 939 ∧ y = 0) → M2' a y = M a y := fun a y u1 u2 u3 u4 u5 u6 u7 => by rw [v2 a y (by omega) (by omega), tP3 a y (by omega) (by omega) (by omega)]
    have hl : obL (mset p.1 0 2 (f + 1)) p.2 = obL (mset p.1 0 2 f) p.2 ++ [f] := by rw [ob_nx, if_pos hg]
    rw [bI_t, if_neg (show ¬ (1 : Int32) = 0 by decide), if_neg (show ¬ (1 : Int32) = 0 by decide)]
    refine ⟨A2, M2', p.2, rfl, rfl, hv, TfC_w hC hK (fun a y u1 u2 => by rw [v1 a y (by omega) (by omega) (by omega), w4 a y (by omega)]), TfM_fr M3 (fun a y u1 u2 u3 u4 => v2 a y (by omega) (by omega)) (fun _ _ _ _ => rfl), ⟨?_, ?_, ?_, ?_, ?_, ?_, ?_, ?_⟩, Or.inl rfl, ⟨_, _, _, _, _, _, B2⟩, ?_, fA, fM⟩
    · rw [fM _ _ (by omega) (by omega) (by omega) (by omega) (by omega) (by omega) (by omega), n1, h02, h02]
    · intro m u1 u2
      rw [h02] at u2
      obtain ⟨z1, z2⟩ := n2 m u1 (by rw [h02]; exact u2)
      rw [mset_n (by omega)] at z1
      rw [fM _ _ (by omega) (by omega) (by omega) (by omega) (by omega) (by omega) (by omega), fM _ _ (by omega) (by omega) (by omega) (by omega) (by omega) (by omega) (by omega), mset_n (by omega)]
      exact ⟨z1, z2⟩
    · rw [fM _ _ (by omega) (by omega) (by omega) (by omega) (by omega) (by omega) (by omega)]
      exact n3
    · exact ⟨en, by rw [fM _ _ (by omega) (by omega) (by omega) (by omega) (by omega) (by omega) (by omega)]; exact n4a, n4b, n4c⟩
    · rw [v2 _ _ (by omega) (by omega), mset_s]
      exact q94
    · rw [v4, hl, List.length_append]
      rfl
    · rw [hl]
      intro k hk
      rw [List.length_append, List.length_singleton] at hk
      rw [id_h]
      by_cases ck : k < (obL (mset p.1 0 2 f) p.2).length
      · rw [List.getElem_append_left ck, v7 _ _ (Or.inl rfl) (by omega), v7 _ _ (Or.inr rfl) (by omega), tP3 _ _ (by omega) (by omega) (by omega), tP3 _ _ (by omega) (by omega) (by omega)]
        have := n7 k ck
        rw [id_h] at this
        exact this
      · have ek : k = (obL (mset p.1 0 2 f) p.2).length := by omega
        subst ek
        rw [List.getElem_append_right (by omega)]
        simp only [Nat.sub_self, List.getElem_singleton]
        exact ⟨v5, v6⟩
    · rw [hl, List.length_append, List.length_singleton, mset_s, h03]
      omega
    · rw [v1 _ _ (by omega) (by omega) (by omega), w4 _ _ (by omega), v2 _ _ (by omega) (by omega), tP3 _ _ (by omega) (by omega) (by omega)]
      exact h0
  | false =>
    obtain ⟨z1, z2⟩ := s4 rfl
    subst z1
    subst z2
    rw [bI_f, if_pos (show (0 : Int32) = 0 from rfl), if_pos (show (0 : Int32) = 0 from rfl), mlet_e]
    have hCx : TfC (mset A2 292 0 (A2 292 0 + 1)) p.1 p.2 o := TfC_w hC hK (fun a y u1 u2 => by rw [mset_n (by omega), w4 a y (by omega)])
    obtain ⟨⟨A4, L4⟩, c1, c2, c3, c4⟩ := c_lose (fu := fu) (L := L1) hv hCx hf
    dsimp only at c2 c3 c4
    subst c2
    have hMx : TfM (mset (mset P3 821 0 3) 939 0 (P3 939 0 + 1)) Lm τ p.1 p.2 o e := TfM_fr M3 (fun a y u1 u2 u3 u4 => by rw [mset_n (by omega), mset_n (by omega)]) (fun _ _ _ _ => rfl)
    obtain ⟨⟨r5, M5, L5⟩, d1, d2, d3, d4⟩ := m_lose17 (fu := fu) hv hMx hf hg
    dsimp only at d2 d3 d4
    subst d3
    rw [c1, mb2_s, show (mset (mset P3 821 0 3) 939 0 (P3 939 0 + 1)) 732 94 = sI (f + 1) by rw [mset_n (by omega), mset_n (by omega)]; exact q94, d1, mb3_s]
    have fA : ∀ a y, ¬ (20 ≤ a ∧ a ≤ 60) → ¬ (273 ≤ a ∧ a ≤ 274) → ¬ (a = 292 ∧ y = 0) → A4 a y = A a y := fun a y u1 u2 u3 => by rw [c4 a y (by omega), mset_n (by omega), w4 a y (by omega)]
    have fM : ∀ a y, ¬ (a = 732 ∧ (y = 91 ∨ y = 94)) → ¬ (821 ≤ a ∧ a ≤ 853) → a ≠ 869 → a ≠ 898 → a ≠ 926 → ¬ (929 ≤ a ∧ a ≤ 930) → ¬ (a = 939 ∧ y = 0) → M5 a y = M a y := fun a y u1 u2 u3 u4 u5 u6 u7 => by rw [d4 a y (by omega), mset_n (by omega), mset_n (by omega), tP3 a y (by omega) (by omega) (by omega)]
    have fM2 : ∀ a y, (a = 732 ∧ y = 91) ∨ (929 ≤ a ∧ a ≤ 930) → M5 a y = M a y := fun a y u => by rw [d4 a y (by omega), mset_n (by omega), mset_n (by omega), tP3 a y (by omega) (by omega) (by omega)]
    have hl : obL (mset p.1 0 2 (f + 1)) (mset p.2 1 f true) = obL (mset p.1 0 2 f) p.2 := by
      rw [ob_nx, mset_s, if_neg (by decide)]
      unfold obL
      rw [mset_s]
      refine List.filter_congr (fun x hx => ?_)
      rw [List.mem_range] at hx
      rw [mset_n (by omega)]
    have hid2 : ∀ x, idO (mset p.1 0 2 (f + 1)) (mset p.2 1 f true) x = idO (mset p.1 0 2 f) p.2 x := fun x => by
      rw [id_h, id_h]
      unfold idO toT
      rw [mset_n (by omega)]
    refine ⟨A4, M5, mset p.2 1 f true, rfl, rfl, V_gone hv, c3, d2, ⟨?_, ?_, ?_, ?_, ?_, ?_, ?_, ?_⟩, Or.inr rfl, BusE_fr hBE (fun a y u1 u2 => by rw [c4 a y (by omega), mset_n (by omega), w4 a y (by omega)]) (fun a y u1 u2 u3 => by rw [d4 a y (by omega), mset_n (by omega), mset_n (by omega), tP3 a y (by omega) (by omega) (by omega)]), ?_, fA, fM⟩
    · rw [fM _ _ (by omega) (by omega) (by omega) (by omega) (by omega) (by omega) (by omega), n1, h02, h02]
    · intro m u1 u2
      rw [h02] at u2
      obtain ⟨z1, z2⟩ := n2 m u1 (by rw [h02]; exact u2)
      rw [mset_n (by omega)] at z1
      rw [fM _ _ (by omega) (by omega) (by omega) (by omega) (by omega) (by omega) (by omega), fM _ _ (by omega) (by omega) (by omega) (by omega) (by omega) (by omega) (by omega), mset_n (by omega), mset_n (by omega)]
      exact ⟨z1, z2⟩
    · rw [fM _ _ (by omega) (by omega) (by omega) (by omega) (by omega) (by omega) (by omega)]
      exact n3
    · exact ⟨en, by rw [fM _ _ (by omega) (by omega) (by omega) (by omega) (by omega) (by omega) (by omega)]; exact n4a, n4b, by rw [mset_n (by omega)]; exact n4c⟩
    · rw [d4 _ _ (by omega), mset_n (by omega), mset_n (by omega), mset_s]
      exact q94
    · rw [fM2 _ _ (by omega), hl]
      exact n6
    · rw [hl]
      intro k hk
      rw [hid2, fM2 _ _ (by omega), fM2 _ _ (by omega)]
      exact n7 k hk
    · rw [hl, mset_s, h03]
      omega
    · rw [c4 _ _ (by omega), mset_s, w4 _ _ (by omega), d4 _ _ (by omega), mset_s, tP3 _ _ (by omega) (by omega) (by omega), h0]
/-! the transfer's microsecond: both sides -/
theorem m_sum295 {fu : Nat} {M : mwM} {L : mwL} {e : Nat → Nat} (hfu : 20 ≤ fu) (h : ∀ k, k < 8 → M 901 k = sI (e k)) : fX19_transferred_h295 fu fu (0, 1, M, L) = fX19_transferred_i295 fu (fun _ => none) (sI (eS e)) 8 (mset M 869 0 0) L := by
  have step : ∀ (k q v : Nat) (B : mwM), 1 ≤ k → k < 8 → (∀ k, k < 8 → B 901 k = sI (e k)) → fX19_transferred_h295 fu (q + 1) (sI v, sI k, B, L) = fX19_transferred_h295 fu q (sI (v + e k), sI (k + 1), mset B 869 0 0, L) := by
    intro k q v B k1 k2 hB
    show fX19_transferred_i295 fu (fX19_transferred_h295 fu q) (sI v) (sI k) B L = _
    unfold fX19_transferred_i295 DX17_ended
    rw [if_neg (show ¬ (8 : Int32) ≤ sI k by rw [sI_lle (by decide) (by omega)]; omega), mlet_e, if_neg (show ¬ sI k < 0 by rw [show (0 : Int32) = sI 0 from rfl, sI_lt (by omega) (by omega)]; omega), if_pos (show sI k ≤ 7 by rw [show (7 : Int32) = sI 7 from rfl, sI_le (by omega) (by omega)]; omega), mck_s (show k < 8 by omega) (by omega)]
    unfold fX17_ended_b26
    rw [mb3_s, mlet_e, mlet_e, sI_nn (by omega), mset_n (by omega), hB k k2, sI_add, sI_1]
  obtain ⟨q, hq⟩ : ∃ q, fu = q + 8 := ⟨fu - 8, by omega⟩
  have h1 : ∀ k, k < 8 → (mset M 869 0 0) 901 k = sI (e k) := fun k hk => by rw [mset_n (by omega)]; exact h k hk
  have hr : fX19_transferred_h295 fu fu (0, 1, M, L) = fX19_transferred_h295 fu (q + 8) (sI 0, sI 1, M, L) := by
    rw [← hq]
    rfl
  rw [hr, step 1 (q + 7) 0 M (by omega) (by omega) h, step 2 (q + 6) _ _ (by omega) (by omega) h1, mset_ii, step 3 (q + 5) _ _ (by omega) (by omega) h1, mset_ii, step 4 (q + 4) _ _ (by omega) (by omega) h1, mset_ii, step 5 (q + 3) _ _ (by omega) (by omega) h1, mset_ii, step 6 (q + 2) _ _ (by omega) (by omega) h1, mset_ii, step 7 (q + 1) _ _ (by omega) (by omega) h1, mset_ii]
  show fX19_transferred_i295 fu (fX19_transferred_h295 fu q) (sI _) 8 (mset M 869 0 0) L = _
  unfold eS
  rw [Nat.zero_add]
  unfold fX19_transferred_i295
  rw [if_pos (show (8 : Int32) ≤ 8 by decide), if_pos (show (8 : Int32) ≤ 8 by decide)]
/-- all frames that are new go on the bus -/
theorem st_putl {fu C t τ : Nat} {n o : Nat → Nat → Nat} {e ec tc fl : Nat → Nat} {Lc Lm : mwL} (hfu : 300 ≤ fu) (hC6 : C ≤ 6) (hC1 : ∀ m, 1 ≤ m → m ≤ n 0 0 → n 1 m < C) : ∀ (r f q q' : Nat) (b : Nat → Nat → Bool) (A M : mwM), f + r = n 0 1 → r < q → r < q' → TfV n b → TfC A n b o → TfM M Lm τ n b o e → TfN M (mset n 0 2 f) b e → (∀ g, f ≤ g → g < n 0 1 → b 1 g = false) → BusE A M (C + 1) t ec tc fl → A 3 13 = sI C → M 732 19 = sI C → A 292 0 = M 939 0 → ∃ (A' M' : mwM) (b' : Nat → Nat → Bool), fX1_passTransfer_h19 fu q (sI f, A, Lc) = fX1_passTransfer_i19 fu (fun _ => none) (sI (n 0 1)) A' Lc ∧ fX19_transferred_h23 fu q' (sI (n 0 1), M, Lm) = fX19_transferred_h295 fu fu (0, 1, M', Lm) ∧ TfV n b' ∧ TfC A' n b' o ∧ TfM M' Lm τ n b' o e ∧ TfN M' (mset n 0 2 (n 0 1)) b' e ∧ BusE A' M' (C + 1) t ec tc fl ∧ A' 292 0 = M' 939 0 ∧ (∀ a y, ¬ (20 ≤ a ∧ a ≤ 60) → ¬ (273 ≤ a ∧ a ≤ 274) → ¬ (a = 292 ∧ y = 0) → A' a y = A a y) ∧ ∀ a y, ¬ (a = 732 ∧ (y = 91 ∨ y = 94)) → ¬ (821 ≤ a ∧ a ≤ 853) → a ≠ 869 → a ≠ 898 → a ≠ 926 → ¬ (929 ≤ a ∧ a ≤ 930) → ¬ (a = 939 ∧ y = 0) → M' a y = M a y := by
  intro r
  induction r with
  | zero =>
    intro f q q' b A M hf hq hq' hv hC hM hN hG hB h13 h19 h0
    have hF := Tf_F hv
    obtain ⟨q, rfl⟩ : ∃ y, q = y + 1 := ⟨q - 1, by omega⟩
    obtain ⟨q', rfl⟩ : ∃ y, q' = y + 1 := ⟨q' - 1, by omega⟩
    have ef : f = n 0 1 := by omega
    subst ef
    refine ⟨A, M, b, ?_, ?_, hv, hC, hM, hN, hB, h0, fun _ _ _ _ _ => rfl, fun _ _ _ _ _ _ _ _ _ => rfl⟩
    · show fX1_passTransfer_i19 fu (fX1_passTransfer_h19 fu q) (sI (n 0 1)) A Lc = _
      unfold fX1_passTransfer_i19
      rw [if_pos (show A 154 6 ≤ sI (n 0 1) by rw [hC.1.2.1, sI_le (by omega) (by omega)]; omega), if_pos (show A 154 6 ≤ sI (n 0 1) by rw [hC.1.2.1, sI_le (by omega) (by omega)]; omega)]
    · show fX19_transferred_i23 fu (fX19_transferred_h23 fu q') (sI (n 0 1)) M Lm = _
      have h94 := hN.2.2.2.2.1
      rw [mset_s] at h94
      unfold fX19_transferred_i23
      rw [if_pos (show sI (n 0 1) ≤ M 732 94 by rw [h94, sI_le (by omega) (by omega)]; omega)]
  | succ r ih =>
    intro f q q' b A M hf hq hq' hv hC hM hN hG hB h13 h19 h0
    have hF := Tf_F hv
    obtain ⟨q, rfl⟩ : ∃ y, q = y + 1 := ⟨q - 1, by omega⟩
    obtain ⟨q', rfl⟩ : ∃ y, q' = y + 1 := ⟨q' - 1, by omega⟩
    obtain ⟨A1, M1, b1, s1, s2, s3, s4, s5, s6, s7, s8, s9, s10, s11⟩ := st_putf (fu := fu) (p := (n, b)) (Lc := Lc) (fX19_transferred_h23 fu q') (by omega) hv hC hM hN (show f < n 0 1 by omega) (hG f (by omega) (by omega)) hB h13 h19 hC6 hC1 h0
    dsimp only at s2 s3 s4 s5 s6 s7
    obtain ⟨A2, M2, b2, z1, z2, z3, z4, z5, z6, z7, z8, z9, z10⟩ := ih (f + 1) q q' b1 A1 M1 (by omega) (by omega) (by omega) s3 s4 s5 s6 (fun g u1 u2 => by
      cases s7 with
      | inl w => rw [w]; exact hG g (by omega) u2
      | inr w => rw [w, mset_n (by omega)]; exact hG g (by omega) u2) s8 (by rw [s10 _ _ (by omega) (by omega) (by omega)]; exact h13) (by rw [s11 _ _ (by omega) (by omega) (by omega) (by omega) (by omega) (by omega) (by omega)]; exact h19) s9
    refine ⟨A2, M2, b2, ?_, ?_, z3, z4, z5, z6, z7, z8, fun a y u1 u2 u3 => by rw [z9 a y u1 u2 u3, s10 a y u1 u2 u3], fun a y u1 u2 u3 u4 u5 u6 u7 => by rw [z10 a y u1 u2 u3 u4 u5 u6 u7, s11 a y u1 u2 u3 u4 u5 u6 u7]⟩
    · rw [← z1]
      show fX1_passTransfer_i19 fu (fX1_passTransfer_h19 fu q) (sI f) A Lc = _
      generalize fX1_passTransfer_h19 fu q = H
      unfold fX1_passTransfer_i19
      rw [if_neg (show ¬ A 154 6 ≤ sI f by rw [hC.1.2.1, sI_le (by omega) (by omega)]; omega), s1, mb2_s, mlet_e, sI_1]
    · rw [← z2, ← s2]
      rfl
/-! the transfer's microsecond, whole -/
theorem mset_own {α : Type} {M : Nat → Nat → α} {a b : Nat} : mset M a b (M a b) = M := by
  funext x y
  by_cases c : x = a ∧ y = b
  · rw [c.1, c.2, mset_s]
  · rw [mset_n c]
/-- the numbers of a transfer that has handed its frames on -/
def SmN (n n' : Nat → Nat → Nat) (b b' : Nat → Nat → Bool) : Prop := (∀ i, i ≠ 0 → n' i = n i) ∧ (n' 0 0 = n 0 0 ∧ n' 0 1 = n 0 1 ∧ n' 0 3 = n 0 3 ∧ n' 0 4 = n 0 4) ∧ b' 0 = b 0 ∧ b' 1 = b 1 ∧ b' 3 = b 3
theorem TfV_sm {n n' : Nat → Nat → Nat} {b b' : Nat → Nat → Bool} (h : TfV n b) (hs : SmN n n' b b') (h2 : n' 0 2 ≤ n' 0 1) : TfV n' b' := by
  obtain ⟨s1, ⟨s2, s3, s4, s5⟩, s6, s7, s8⟩ := hs
  have ec : cbF n' b' = cbF n b := by
    funext m
    unfold cbF
    rw [s1 3 (by omega), s1 2 (by omega), s8]
  obtain ⟨⟨h1, h1', h1'', h1''', h1'4⟩, h3, h4, h5⟩ := h
  refine ⟨⟨by rw [s2]; exact h1, h2, by rw [s4]; exact h1'', by rw [s5, s2]; exact h1''', by rw [s3, s2, ec]; exact h1'4⟩, ?_, ?_, ?_⟩
  · rw [s2, s1 1 (by omega), s1 2 (by omega), s1 3 (by omega), s1 4 (by omega), s4, s5, s8]
    exact h3
  · rw [s1 5 (by omega), s1 6 (by omega), s1 7 (by omega), s1 8 (by omega), s1 9 (by omega), s1 2 (by omega), s2, s4]
    exact h4
  · rw [s1 10 (by omega), s1 11 (by omega), s1 12 (by omega), s1 3 (by omega), s1 2 (by omega), s2, s3, s7, s8]
    exact h5
theorem TfM_sm {M : mwM} {L : mwL} {τ : Nat} {n n' : Nat → Nat → Nat} {b b' : Nat → Nat → Bool} {o : Nat → Nat → Nat} {e : Nat → Nat} (h : TfM M L τ n b o e) (hs : SmN n n' b b') : TfM M L τ n' b' o e := by
  obtain ⟨s1, ⟨s2, s3, s4, s5⟩, s6, s7, s8⟩ := hs
  have en : nuO n' = nuO n := by
    funext m
    unfold nuO
    rw [s1 10 (by omega), s1 2 (by omega), s1 11 (by omega), s1 12 (by omega)]
  have ec : coO n' = coO n := by
    funext m
    unfold coO
    rw [s1 10 (by omega), s1 2 (by omega), s1 11 (by omega), s1 12 (by omega)]
  obtain ⟨h1, h2, h3, h4, h5, h6, h7⟩ := h
  refine ⟨?_, ?_, ?_, ?_, ?_, ?_, h7⟩
  · unfold TmG
    rw [s2, s3]
    exact h1
  · rw [s2, s1 2 (by omega)]
    exact h2
  · unfold TmM TmS
    rw [s2, s1 2 (by omega), s1 3 (by omega), s1 4 (by omega)]
    exact h3
  · rw [s2]
    exact h4
  · unfold TmR
    rw [s1 5 (by omega), s1 6 (by omega), s1 7 (by omega), s1 8 (by omega), s1 9 (by omega), s1 2 (by omega)]
    exact h5
  · unfold TmF
    rw [s3, en, ec, s1 10 (by omega), s1 11 (by omega), s1 12 (by omega), s7]
    exact h6
theorem TfT_sm {n n' : Nat → Nat → Nat} {b b' : Nat → Nat → Bool} {τ : Nat} (h : TfT n τ) (hs : SmN n n' b b') : TfT n' τ := by
  obtain ⟨s1, ⟨s2, s3, s4, s5⟩, _⟩ := hs
  unfold TfT
  rw [s2, s1 3 (by omega), s1 4 (by omega), s1 5 (by omega), s1 9 (by omega)]
  exact h
theorem TfC_sm {A A' : mwM} {n n' : Nat → Nat → Nat} {b b' : Nat → Nat → Bool} {o : Nat → Nat → Nat} (h : TfC A n b o) (hs : SmN n n' b b') (hK : n 0 0 ≤ 100) (hA : ∀ a y, 154 ≤ a → a ≤ 273 → ¬ (a = 154 ∧ (y = 7 ∨ y = 10)) → A' a y = A a y) (h7 : A' 154 7 = sI (n' 0 2)) (h10 : A' 154 10 = bI (b' 2 0)) : TfC A' n' b' o := by
  obtain ⟨s1, ⟨s2, s3, s4, s5⟩, s6, s7, s8⟩ := hs
  have hC : TfC A' (mset n 0 2 (n' 0 2)) (mset b 2 0 (b' 2 0)) o := by
    have hx : TfC (mset (mset A' 154 7 (A 154 7)) 154 10 (A 154 10)) n b o := TfC_w h hK (fun a y u1 u2 => by
      by_cases c1 : a = 154 ∧ y = 10
      · rw [c1.1, c1.2, mset_s]
      · rw [mset_n c1]
        by_cases c2 : a = 154 ∧ y = 7
        · rw [c2.1, c2.2, mset_s]
        · rw [mset_n c2]
          exact hA a y u1 u2 (by omega))
    obtain ⟨⟨k1, k2, k3, k4, k5, k6⟩, k7, k8, k9⟩ := hx
    have t : ∀ a y, ¬ (a = 154 ∧ (y = 7 ∨ y = 10)) → mset (mset A' 154 7 (A 154 7)) 154 10 (A 154 10) a y = A' a y := fun a y u => by rw [mset_n (by omega), mset_n (by omega)]
    have m0 : mset n 0 2 (n' 0 2) 0 0 = n 0 0 := mset_n (by omega)
    have m1 : mset n 0 2 (n' 0 2) 0 1 = n 0 1 := mset_n (by omega)
    have m3 : mset n 0 2 (n' 0 2) 0 3 = n 0 3 := mset_n (by omega)
    have m4 : mset n 0 2 (n' 0 2) 0 4 = n 0 4 := mset_n (by omega)
    have mi : ∀ i j, i ≠ 0 → mset n 0 2 (n' 0 2) i j = n i j := fun i j u => mset_n (by omega)
    have mb : ∀ i j, i ≠ 2 → mset b 2 0 (b' 2 0) i j = b i j := fun i j u => mset_n (by omega)
    refine ⟨⟨by rw [m0, ← t 154 5 (by omega)]; exact k1, by rw [m1, ← t 154 6 (by omega)]; exact k2, by rw [mset_s]; exact h7, by rw [m4, ← t 154 8 (by omega)]; exact k4, by rw [m3, ← t 154 9 (by omega)]; exact k5, by rw [mset_s]; exact h10⟩, fun m u1 u2 => ?_, fun r u => ?_, fun f u => ?_⟩
    · rw [m0] at u2
      obtain ⟨q1, q2, q3, q4, q5, q6⟩ := k7 m u1 u2
      exact ⟨by rw [mi _ _ (by omega), ← t _ _ (by omega)]; exact q1, by rw [mb _ _ (by omega), ← t _ _ (by omega)]; exact q2, by rw [mi _ _ (by omega), ← t _ _ (by omega)]; exact q3, by rw [mi _ _ (by omega), ← t _ _ (by omega)]; exact q4, fun w => by rw [mi _ _ (by omega)] at w; rw [mi _ _ (by omega), ← t _ _ (by omega)]; exact q5 w, fun i w => by rw [mi _ _ (by omega)] at w; rw [← t _ _ (by omega)]; exact q6 i w⟩
    · obtain ⟨q1, q2⟩ := k8 r u
      refine ⟨by rw [mi _ _ (by omega), ← t _ _ (by omega)]; exact q1, fun w => ?_⟩
      rw [mi _ _ (by omega)] at w
      obtain ⟨q3, q4, q5, q6⟩ := q2 w
      exact ⟨by rw [mi _ _ (by omega), ← t _ _ (by omega)]; exact q3, by rw [mi _ _ (by omega), ← t _ _ (by omega)]; exact q4, by rw [mi _ _ (by omega), ← t _ _ (by omega)]; exact q5, by rw [mi _ _ (by omega), ← t _ _ (by omega)]; exact q6⟩
    · rw [m1] at u
      obtain ⟨q1, q2, q3, q4⟩ := k9 f u
      exact ⟨by rw [mi _ _ (by omega), ← t _ _ (by omega)]; exact q1, by rw [mi _ _ (by omega), ← t _ _ (by omega)]; exact q2, by rw [mi _ _ (by omega), ← t _ _ (by omega)]; exact q3, by rw [mb _ _ (by omega), ← t _ _ (by omega)]; exact q4⟩
  obtain ⟨⟨k1, k2, k3, k4, k5, k6⟩, k7, k8, k9⟩ := hC
  rw [mset_n (by omega)] at k1 k2 k4 k5
  refine ⟨⟨by rw [s2]; exact k1, by rw [s3]; exact k2, h7, by rw [s5]; exact k4, by rw [s4]; exact k5, h10⟩, fun m u1 u2 => ?_, fun r u => ?_, fun f u => ?_⟩
  · rw [s2] at u2
    have := k7 m u1 (by rw [mset_n (by omega)]; exact u2)
    rw [mset_n (by omega), mset_n (by omega), mset_n (by omega), mset_n (by omega), mset_n (by omega)] at this
    rw [s1 1 (by omega), s6, s1 2 (by omega), s1 3 (by omega), s1 4 (by omega)]
    exact this
  · have := k8 r u
    rw [mset_n (by omega), mset_n (by omega), mset_n (by omega), mset_n (by omega), mset_n (by omega)] at this
    rw [s1 5 (by omega), s1 6 (by omega), s1 7 (by omega), s1 8 (by omega), s1 9 (by omega)]
    exact this
  · rw [s3] at u
    have := k9 f (by rw [mset_n (by omega)]; exact u)
    rw [mset_n (by omega), mset_n (by omega), mset_n (by omega), mset_n (by omega)] at this
    rw [s1 10 (by omega), s1 11 (by omega), s1 12 (by omega), s7]
    exact this
/-! passTransfer against transferred -/
theorem st_pass {fu C t t' : Nat} {p : PB} {o : Nat → Nat → Nat} {e ec tc fl Sb : Nat → Nat} {A M : mwM} {Lc Lm : mwL} (hfu : 2000 ≤ fu) (hTr : TrB A M Lm C Sb p o e) (hB : BusE A M (C + 1) t ec tc fl) (h16 : A 3 16 = sI t') (h83 : M 732 83 = sI t') (ht : t' = p.1 0 3 + 1) (ht2 : t' ≤ 20000) (h13 : A 3 13 = sI C) (h19 : M 732 19 = sI C) (hC6 : C ≤ 6) (h0 : A 292 0 = M 939 0) (h4 : A 292 4 = M 939 4) : ∃ (A' M' : mwM) (Lm' : mwL) (p' : PB) (e' : Nat → Nat), DX1_passTransfer fu A Lc = some (A', Lc) ∧ DX19_transferred fu M Lm = some (M', Lm') ∧ TrB A' M' Lm' C Sb p' o e' ∧ p'.1 0 3 = t' ∧ BusE A' M' (C + 1) t ec tc fl ∧ A' 292 0 = M' 939 0 ∧ A' 292 4 = M' 939 4 ∧ (∀ a y, ¬ (20 ≤ a ∧ a ≤ 60) → ¬ (154 ≤ a ∧ a ≤ 274) → ¬ (a = 292 ∧ (y = 0 ∨ y = 4)) → ¬ (a = 3 ∧ y = 17) → A' a y = A a y) ∧ (∀ a y, ¬ (a = 732 ∧ (y = 91 ∨ y = 94 ∨ y = 96 ∨ y = 97)) → ¬ (821 ≤ a ∧ a ≤ 853) → ¬ (869 ≤ a ∧ a ≤ 901) → a ≠ 926 → ¬ (929 ≤ a ∧ a ≤ 930) → ¬ (a = 939 ∧ (y = 0 ∨ y = 4)) → M' a y = M a y) ∧ ∀ a y, ¬ (a = 869 ∨ a = 880 ∨ a = 881 ∨ a = 897) → Lm' a y = Lm a y := by
  obtain ⟨hv, hC, hM, hN, hT, hC1, h17, h3, hAn, hQu, hKn, hG⟩ := hTr
  have hk := Kp_tk (t := t') (p := p)
  have h03 : (tkP t' p).1 0 3 = t' := by
    unfold tkP clP
    dsimp only
    exact mset_s
  have hT' := T_tk ht hT
  obtain ⟨⟨A1, L1⟩, a1, a2, a3, a4, a5⟩ := c_tick9 (fu := fu) (L := Lc) (by omega) hv hC ht2 (by omega)
  dsimp only at a2 a3 a5
  subst a2
  obtain ⟨⟨r0, M1, Lm1⟩, m1, e1, m2, m3, m4, m5⟩ := m_tick17 (fu := fu) (by omega) hv hT hM ht ht2
  dsimp only at m2 m4 m5
  have hN1 : TfN M1 (tkP t' p).1 (tkP t' p).2 e1 := TfN_tk hv hN ht h03 m3 (fun a y u => m4 a y (by omega))
  have t00 : (tkP t' p).1 0 0 = p.1 0 0 := tk_n (by omega)
  have t02 : (tkP t' p).1 0 2 = p.1 0 2 := tk_n (by omega)
  have t1 : ∀ m, (tkP t' p).1 1 m = p.1 1 m := fun m => tk_n (by omega)
  have t2 : ∀ m, (tkP t' p).1 2 m = p.1 2 m := fun m => tk_n (by omega)
  generalize hpp : tkP t' p = pp at hk h03 hT' a3 a4 m2 m3 hN1 t00 t02 t1 t2
  obtain ⟨n, b⟩ := pp
  dsimp only at h03 hT' a3 a4 m2 m3 hN1 t00 t02 t1 t2
  obtain ⟨k1, k2, k3, k4, k5⟩ := hk
  dsimp only at k1 k2 k3 k4 k5
  have hF := Tf_F a4
  have hle := a4.1.2.1
  generalize hM2 : mset M1 869 0 0 = M2
  have tM2 : ∀ a y, ¬ (a = 869 ∧ y = 0) → M2 a y = M1 a y := fun a y u => by rw [← hM2, mset_n u]
  have fr0 := m_frame0 (fu := fu) m2
  rw [hM2] at fr0
  have TM2 : TfM M2 Lm1 t' n b o e1 := TfM_fr m2 (fun a y u1 u2 u3 u4 => tM2 a y (by omega)) (fun _ _ _ _ => rfl)
  have hfM2 : ∀ a y, ¬ (869 ≤ a ∧ a ≤ 901) → M2 a y = M a y := fun a y u => by rw [tM2 a y (by omega), m4 a y (by omega)]
  have hfA1 : ∀ a y, ¬ (154 ≤ a ∧ a ≤ 274) → A1 a y = A a y := fun a y u => a5 a y (by omega)
  obtain ⟨A3, M3, b3, z1, z2, z3, z4, z5, z6, z7, z8, z9, z10⟩ := st_putl (fu := fu) (t := t) (C := C) (n := n) (Lc := L1) (by omega) hC6 (fun m u1 u2 => by rw [t1]; exact hC1 m u1 (by omega)) (n 0 1 - n 0 2) (n 0 2) fu fu b A1 M2 (by omega) (by omega) (by omega) a4 a3 TM2 (by rw [mset_own]; exact TfN_fr hN1 (fun a y u => tM2 a y (by omega))) (fun g u1 u2 => by
    by_cases c : g < p.1 0 1
    · rw [k3 g c]; exact hG g (by omega) c
    · exact k4 g (by omega) u2) (BusE_fr hB (fun a y u1 u2 => hfA1 a y (by omega)) (fun a y u1 u2 u3 => hfM2 a y (by omega))) (by rw [hfA1 _ _ (by omega)]; exact h13) (by rw [hfM2 _ _ (by omega)]; exact h19) (by rw [hfA1 _ _ (by omega), hfM2 _ _ (by omega)]; exact h0)
  obtain ⟨j1, j2, j3, ⟨en, j4, j5, j6⟩, j7, j8, j9, j10⟩ := id z6
  have eC : DX1_passTransfer fu A L1 = fX1_passTransfer_i19 fu (fun _ => none) (sI (n 0 1)) A3 L1 := by
    unfold DX1_passTransfer
    rw [h16, a1, mb2_s, mlet_e, show A1 154 7 = sI (n 0 2) from a3.1.2.2.1]
    exact z1
  have eM : DX19_transferred fu M Lm = fX19_transferred_i295 fu (fun _ => none) (sI (eS e1)) 8 (mset M3 869 0 0) Lm1 := by
    unfold DX19_transferred
    rw [h83, sI_L (by omega), m1, mb3_s, fr0, mb3_s, z2, m_sum295 (by omega) z5.2.2.2.2.2.2]
  have hS : eS e1 < 2000000000 := by
    rw [mset_s, mset_n (by omega)] at j10
    have := a4.1.2.2.1
    omega
  have e4 : (4 : Int32).toNatClampNeg = 4 := rfl
  have v17 : A3 3 17 = M3 732 97 := by rw [z9 _ _ (by omega) (by omega) (by omega), hfA1 _ _ (by omega), z10 _ _ (by omega) (by omega) (by omega) (by omega) (by omega) (by omega) (by omega), hfM2 _ _ (by omega)]; exact h17
  have v4 : A3 292 4 = M3 939 4 := by rw [z9 _ _ (by omega) (by omega) (by omega), hfA1 _ _ (by omega), z10 _ _ (by omega) (by omega) (by omega) (by omega) (by omega) (by omega) (by omega), hfM2 _ _ (by omega)]; exact h4
  -- both ends
  have fin : ∃ (A' M' : mwM), fX1_passTransfer_i19 fu (fun _ => none) (sI (n 0 1)) A3 L1 = some (A', L1) ∧ fX19_transferred_i295 fu (fun _ => none) (sI (eS e1)) 8 (mset M3 869 0 0) Lm1 = some (M', Lm1) ∧ A' 154 7 = sI (n 0 1) ∧ A' 154 10 = bI false ∧ M' 732 96 = sI (eS e1) ∧ A' 3 17 = M' 732 97 ∧ A' 292 4 = M' 939 4 ∧ (∀ a y, ¬ (a = 154 ∧ (y = 7 ∨ y = 10)) → ¬ (a = 3 ∧ y = 17) → ¬ (a = 292 ∧ y = 4) → A' a y = A3 a y) ∧ ∀ a y, ¬ (a = 869 ∧ y = 0) → ¬ (a = 732 ∧ (y = 96 ∨ y = 97)) → ¬ (a = 939 ∧ y = 4) → M' a y = M3 a y := by
    unfold fX1_passTransfer_i19 fX19_transferred_i295 fX1_passTransfer_b87 fX19_transferred_b350
    rw [if_pos (show A3 154 6 ≤ sI (n 0 1) by rw [z4.1.2.1, sI_le (by omega) (by omega)]; omega), if_pos (show (8 : Int32) ≤ 8 by decide), mlet_e, z4.1.2.1, e4, mset_n (show ¬ (154 = 154 ∧ 10 = 7) by omega), mset_n (show ¬ (3 = 154 ∧ 17 = 7) by omega), mset_n (show ¬ (732 = 869 ∧ 96 = 0) by omega), mset_n (show ¬ (732 = 869 ∧ 97 = 0) by omega), z4.1.2.2.2.2.2, j4, v17, j6]
    by_cases c : en < eS e1
    · rw [decide_eq_true c, bI_t, if_neg (show ¬ (1 : Int32) = 0 by decide), if_neg (show ¬ sI (eS e1) ≤ sI en by rw [sI_le (by omega) (by omega)]; omega)]
      by_cases c2 : M3 732 97 < 0
      · rw [if_pos c2, if_pos c2, mlet_e, mlet_e]
        refine ⟨_, _, rfl, rfl, ?_, ?_, ?_, ?_, ?_, ?_, ?_⟩
        · rw [mset_n (by omega), mset_s]
        · exact mset_s
        · exact mset_s
        · rw [mset_n (by omega), mset_n (by omega), mset_n (by omega), mset_n (by omega)]; exact v17
        · rw [mset_n (by omega), mset_n (by omega), mset_n (by omega), mset_n (by omega)]; exact v4
        · intro a y u1 u2 u3
          rw [mset_n (by omega), mset_n (by omega)]
        · intro a y u1 u2 u3
          rw [mset_n (by omega), mset_n (by omega)]
      · rw [if_neg c2, if_neg c2, mlet_e, mlet_e, mlet_e, mlet_e, mlet_e, mlet_e]
        refine ⟨_, _, rfl, rfl, ?_, ?_, ?_, ?_, ?_, ?_, ?_⟩
        · rw [mset_n (by omega), mset_n (by omega), mset_n (by omega), mset_s]
        · exact mset_s
        · exact mset_s
        · rw [mset_n (by omega), mset_n (by omega), mset_s, mset_n (by omega), mset_s]
        · rw [mset_n (by omega), mset_s, mset_n (by omega), mset_n (by omega), mset_n (by omega), mset_n (by omega), mset_s, mset_n (by omega), v4]
        · intro a y u1 u2 u3
          rw [mset_n (by omega), mset_n (by omega), mset_n (by omega), mset_n (by omega)]
        · intro a y u1 u2 u3
          rw [mset_n (by omega), mset_n (by omega), mset_n (by omega), mset_n (by omega)]
    · rw [decide_eq_false c, bI_f, if_pos (show (0 : Int32) = 0 from rfl), if_pos (show sI (eS e1) ≤ sI en by rw [sI_le (by omega) (by omega)]; omega), mlet_e, mlet_e]
      refine ⟨_, _, rfl, rfl, ?_, ?_, ?_, ?_, ?_, ?_, ?_⟩
      · rw [mset_n (by omega), mset_s]
      · exact mset_s
      · exact mset_s
      · rw [mset_n (by omega), mset_n (by omega), mset_n (by omega), mset_n (by omega)]; exact v17
      · rw [mset_n (by omega), mset_n (by omega), mset_n (by omega), mset_n (by omega)]; exact v4
      · intro a y u1 u2 u3
        rw [mset_n (by omega), mset_n (by omega)]
      · intro a y u1 u2 u3
        rw [mset_n (by omega), mset_n (by omega)]
  obtain ⟨A4, M4, y1, y2, y3, y4, y5, y6, y7, y8, y9⟩ := fin
  have hs : SmN n (mset n 0 2 (n 0 1)) b3 (mset b3 2 0 false) := by
    refine ⟨fun i hi => ?_, ⟨mset_n (by omega), mset_n (by omega), mset_n (by omega), mset_n (by omega)⟩, ?_, ?_, ?_⟩
    · funext j
      exact mset_n (by omega)
    · funext j
      exact mset_n (by omega)
    · funext j
      exact mset_n (by omega)
    · funext j
      exact mset_n (by omega)
  have fA : ∀ a y, ¬ (20 ≤ a ∧ a ≤ 60) → ¬ (154 ≤ a ∧ a ≤ 274) → ¬ (a = 292 ∧ (y = 0 ∨ y = 4)) → ¬ (a = 3 ∧ y = 17) → A4 a y = A a y := fun a y u1 u2 u3 u4 => by rw [y8 a y (by omega) (by omega) (by omega), z9 a y (by omega) (by omega) (by omega), hfA1 a y (by omega)]
  have fM : ∀ a y, ¬ (a = 732 ∧ (y = 91 ∨ y = 94 ∨ y = 96 ∨ y = 97)) → ¬ (821 ≤ a ∧ a ≤ 853) → ¬ (869 ≤ a ∧ a ≤ 901) → a ≠ 926 → ¬ (929 ≤ a ∧ a ≤ 930) → ¬ (a = 939 ∧ (y = 0 ∨ y = 4)) → M4 a y = M a y := fun a y u1 u2 u3 u4 u5 u6 => by rw [y9 a y (by omega) (by omega) (by omega), z10 a y (by omega) (by omega) (by omega) (by omega) (by omega) (by omega) (by omega), hfM2 a y (by omega)]
  have s00 : mset n 0 2 (n 0 1) 0 0 = n 0 0 := mset_n (by omega)
  have s01 : mset n 0 2 (n 0 1) 0 1 = n 0 1 := mset_n (by omega)
  have s03 : mset n 0 2 (n 0 1) 0 3 = n 0 3 := mset_n (by omega)
  have hob : obL (mset n 0 2 (n 0 1)) (mset b3 2 0 false) = obL (mset n 0 2 (n 0 1)) b3 := by
    unfold obL
    rw [show (mset b3 2 0 false) 1 = b3 1 from hs.2.2.2.1]
  have hidO : ∀ x, idO (mset n 0 2 (n 0 1)) (mset b3 2 0 false) x = idO (mset n 0 2 (n 0 1)) b3 x := fun x => by
    unfold idO toT
    rw [show (mset b3 2 0 false) 0 = b3 0 from hs.2.2.1]
  refine ⟨A4, M4, Lm1, (mset n 0 2 (n 0 1), mset b3 2 0 false), e1, by rw [eC]; exact y1, by rw [eM]; exact y2, ⟨TfV_sm z3 hs (by dsimp only; rw [mset_s, s01]; omega), TfC_sm z4 hs z3.1.1 (fun a y u1 u2 u3 => y8 a y (by omega) (by omega) (by omega)) (by dsimp only; rw [y3, mset_s]) (by dsimp only; rw [y4, mset_s]), TfM_sm (by
      dsimp only
      rw [s03, h03]
      exact TfM_fr z5 (fun a y u1 u2 u3 u4 => y9 a y (by omega) (by omega) (by omega)) (fun _ _ _ _ => rfl)) hs, ⟨?_, ?_, ?_, ⟨eS e1, y5, Nat.le_refl _, ?_⟩, ?_, ?_, ?_, ?_⟩, TfT_sm (by
      dsimp only
      rw [s03, h03]
      exact hT') hs, ?_, y6, ?_, ?_, QuR_fr hQu (fun a y u => fA a y (by omega) (by omega) (by omega) (by omega)) (fun a y u => fM a y (by omega) (by omega) (by omega) (by omega) (by omega) (by omega)), KnC_f hKn (by omega) (fun a y u1 u2 => fA a y (by omega) (by omega) (by omega) (by omega)), ?_⟩, by dsimp only; rw [s03]; exact h03, BusE_fr z7 (fun a y u1 u2 => y8 a y (by omega) (by omega) (by omega)) (fun a y u1 u2 u3 => y9 a y (by omega) (by omega) (by omega)), ?_, y7, fA, fM, ?_⟩
  · rw [y9 _ _ (by omega) (by omega) (by omega)]; exact j1
  · intro m u1 u2
    dsimp only
    rw [y9 _ _ (by omega) (by omega) (by omega), y9 _ _ (by omega) (by omega) (by omega), show (mset b3 2 0 false) 0 = b3 0 from hs.2.2.1]
    exact j2 m u1 u2
  · rw [y9 _ _ (by omega) (by omega) (by omega)]; exact j3
  · dsimp only
    rw [mset_s, decide_eq_false (by omega)]
  · rw [y9 _ _ (by omega) (by omega) (by omega)]; exact j7
  · dsimp only
    rw [y9 _ _ (by omega) (by omega) (by omega), hob]; exact j8
  · dsimp only
    rw [hob]
    intro k hk
    rw [y9 _ _ (by omega) (by omega) (by omega), y9 _ _ (by omega) (by omega) (by omega), hidO]
    exact j9 k hk
  · dsimp only
    rw [hob]
    exact j10
  · intro m u1 u2
    dsimp only at u2 ⊢
    rw [s00] at u2
    rw [mset_n (by omega), t1]
    exact hC1 m u1 (by omega)
  · rw [fA _ _ (by omega) (by omega) (by omega) (by omega), fM _ _ (by omega) (by omega) (by omega) (by omega) (by omega) (by omega)]; exact h3
  · cases hAn with
    | inl w => exact Or.inl ⟨by rw [fA _ _ (by omega) (by omega) (by omega) (by omega)]; exact w.1, by rw [fM _ _ (by omega) (by omega) (by omega) (by omega) (by omega) (by omega)]; exact w.2⟩
    | inr w =>
      obtain ⟨m, w1, w2, w3, w4, w5⟩ := w
      refine Or.inr ⟨m, w1, ?_, by rw [fA _ _ (by omega) (by omega) (by omega) (by omega)]; exact w3, ?_, fun j hj => ?_⟩
      · dsimp only
        rw [s00, t00]
        exact w2
      · dsimp only
        rw [fM _ _ (by omega) (by omega) (by omega) (by omega) (by omega) (by omega), mset_n (by omega), t2]
        exact w4
      · dsimp only at hj
        rw [mset_n (by omega), t2] at hj
        rw [fM _ _ (by omega) (by omega) (by omega) (by omega) (by omega) (by omega)]
        exact w5 j hj
  · intro f u1 u2
    dsimp only at u1 u2
    rw [mset_s] at u1
    rw [s01] at u2
    omega
  · rw [y8 _ _ (by omega) (by omega) (by omega), y9 _ _ (by omega) (by omega) (by omega)]
    exact z8
  · intro a y u
    exact m5 a y u
/-! THE CAR, as both keep it -/
theorem HdF_f {M M' : mwM} {S f : Nat} {d : Nat → Nat → Nat} {tu : Nat → Bool} (h : HdF M S d tu f) (hM : ∀ a y, 941 ≤ a → (a - 941) % 53 = 15 → M' a y = M a y) : HdF M' S d tu f := by
  have hk : kFr d f = 941 + 53 * pkn (d 10 f) (d 12 f) := rfl
  refine ⟨fun s hs hf q hq => ?_, fun y hy hn => ?_⟩
  · obtain ⟨od, o1, o2⟩ := h.1 s hs hf q hq
    exact ⟨od, by rw [hM _ _ (by omega) (by omega)]; exact o1, o2⟩
  · rw [hM _ _ (by omega) (by omega)]
    exact h.2 y hy hn
/-- what changes only as frames are sent -/
def SlW (A M : mwM) (C S F W X T t : Nat) (d : Nat → Nat → Nat) (tu : Nat → Bool) (g : Nat → Nat → Nat) (si : Nat → Bool) : Prop :=
  (∀ f, f < F → HdF M S d tu f) ∧ DyS A M F d t 0 ∧ SoR A F d t ∧ (∀ f, f < F → d 10 f < C) ∧ (∀ s, s < S → d 4 s < X) ∧ (∀ c, c < 6 → A 284 c = bI (si c) ∧ M 923 c = bI (si c)) ∧ (∀ w, w < W → A 143 w = sI (3 * d 1 (g 4 w))) ∧ M 732 19 = sI C ∧ A 3 13 = sI C ∧ C ≤ 6 ∧ M 732 24 = sI T ∧ (∀ i, i < T → (A 283 i = -1 ∧ M 747 i = -1) ∨ ∃ x, x < X ∧ A 283 i = sI x ∧ M 747 i = sI x) ∧ ∀ i, i < T → A 10 i = M 746 i
theorem SlW_f {A A' M M' : mwM} {C S F W X T t : Nat} {d : Nat → Nat → Nat} {tu : Nat → Bool} {g : Nat → Nat → Nat} {si : Nat → Bool} (h : SlW A M C S F W X T t d tu g si) (hA : ∀ a y, (a = 3 ∧ y = 13) ∨ a = 10 ∨ (a = 61 ∧ y = 14) ∨ a = 77 ∨ a = 79 ∨ a = 143 ∨ a = 283 ∨ a = 284 → A' a y = A a y) (hM : ∀ a y, (a = 732 ∧ (y = 19 ∨ y = 24)) ∨ a = 746 ∨ a = 747 ∨ a = 785 ∨ a = 923 ∨ (941 ≤ a ∧ (a - 941) % 53 = 15) → M' a y = M a y) : SlW A' M' C S F W X T t d tu g si := by
  obtain ⟨h1, h2, ⟨sm, h3, h3'⟩, h4, h5, h6, h7, h8, h9, h10, h11, h12, h13⟩ := h
  refine ⟨fun f hf => HdF_f (h1 f hf) (fun a y u1 u2 => hM a y (by omega)), fun f hf => ?_, ⟨sm, by rw [hA _ _ (by omega)]; exact h3, h3'⟩, h4, h5, fun c hc => ?_, fun w hw => by rw [hA _ _ (by omega)]; exact h7 w hw, by rw [hM _ _ (by omega)]; exact h8, by rw [hA _ _ (by omega)]; exact h9, h10, by rw [hM _ _ (by omega)]; exact h11, fun i hi => ?_, fun i hi => by rw [hA _ _ (by omega), hM _ _ (by omega)]; exact h13 i hi⟩
  · obtain ⟨⟨k, k1, k2, k3⟩, k4⟩ := h2 f hf
    exact ⟨⟨k, by rw [hA _ _ (by omega)]; exact k1, by rw [hM _ _ (by omega)]; exact k2, k3⟩, by rw [hA _ _ (by omega)]; exact k4⟩
  · rw [hA _ _ (by omega), hM _ _ (by omega)]
    exact h6 c hc
  · rw [hA _ _ (by omega), hM _ _ (by omega)]
    exact h12 i hi
/-- the car -/
def CAR (A M : mwM) (Lc Lm : mwL) (C S F W R X T t E : Nat) (d : Nat → Nat → Nat) (tu : Nat → Bool) (g : Nat → Nat → Nat) (own Sb bd : Nat → Nat) (si : Nat → Bool) (p : PB) (o : Nat → Nat → Nat) (e ec tc fl : Nat → Nat) : Prop :=
  TkB A M Lc Lm S F W R X t E d tu g own Sb bd ∧ TrB A M Lm C Sb p o e ∧ p.1 0 3 = t ∧ BusE A M (C + 1) t ec tc fl ∧ SlW A M C S F W X T t d tu g si ∧ RCo A M Lm T C t ∧ (∀ x, x < X → CxR A M Lc Lm t x) ∧ (∀ i, i < T → A 17 i = M 748 i) ∧ (∀ k, k ≤ C → M 924 k = sI (tc k)) ∧ A 292 0 = M 939 0 ∧ A 292 4 = M 939 4 ∧ E ≤ 240 * t ∧ ∀ c, c < 6 → bd c ≤ 64 * t
theorem TkB_g {A A' M M' : mwM} {Lc Lc' Lm Lm' : mwL} {S F W R X t t' E E' : Nat} {d : Nat → Nat → Nat} {tu : Nat → Bool} {g : Nat → Nat → Nat} {own Sb bd : Nat → Nat} (h : TkB A M Lc Lm S F W R X t E d tu g own Sb bd) (hS : FrS A' M' S F d tu) (hQ : ∀ x, x < X → QdR A' M' Lc' Lm' x) (hW : WtR A' M' Lm' W S (g 4) (g 5)) (hT : RTr A' M' W E') (hR : RCd A' M' Sb) (hA : ∀ a y, (a = 3 ∧ y = 15) ∨ (86 ≤ a ∧ a ≤ 91) ∨ (101 ≤ a ∧ a ≤ 136) ∨ (286 ≤ a ∧ a ≤ 290) ∨ (a = 292 ∧ (y = 1 ∨ y = 2)) ∨ (293 ≤ a ∧ (a - 293) % 36 = 0 ∧ y = 5) → A' a y = A a y) (hM : ∀ a y, (a = 732 ∧ (y = 33 ∨ y = 55)) ∨ a = 742 ∨ a = 749 ∨ (769 ≤ a ∧ a ≤ 773) ∨ (a = 939 ∧ (y = 1 ∨ y = 2)) → M' a y = M a y) (hC : ∀ y, Lc' 291 y = Lc 291 y) (hL : ∀ a y, a = 774 ∨ a = 786 → Lm' a y = Lm a y) (h16 : A' 3 16 = sI t') (h83 : M' 732 83 = sI t') (ht : t' ≤ 20000) : TkB A' M' Lc' Lm' S F W R X t' E' d tu g own Sb bd := by
  obtain ⟨kS, kO, kR, kQ, kW, kT, kC, kK, kN, k1, k2, k16, k83, kt⟩ := h
  refine ⟨hS, ChO_f kO (fun x hx => hA _ _ (by omega)) (fun a y u => hM a y (by omega)), RdR_f kR (fun a y u => hA a y (by omega)) (fun a y u => hM a y (by omega)) hC (fun y => hL _ y (by omega)), hQ, hW, hT, hR, fun f hf hk => KnC_f (kK f hf hk) ?_ (fun a y u1 u2 => hA a y (by omega)), fun f hf c hc => ?_, by rw [hA _ _ (by omega), hM _ _ (by omega)]; exact k1, by rw [hA _ _ (by omega), hM _ _ (by omega)]; exact k2, h16, h83, ht⟩
  · obtain ⟨_, _, _, _, _, _, fF, _⟩ := kS
    have := (fF f hf).1
    unfold FrT at this
    omega
  · obtain ⟨cn, n1, n2, n3⟩ := kN f hf c hc
    exact ⟨cn, n1, by rw [hA _ _ (by omega)]; exact n2, by rw [hL _ _ (by omega)]; exact n3⟩
/-- what the running car leaves alone -/
abbrev kpA (A A' : mwM) : Prop := ∀ a y, a ≤ 2 ∨ (a = 3 ∧ y = 14) → A' a y = A a y
abbrev kpM (X : Nat) (M M' : mwM) : Prop := ∀ a y, (a = 732 ∧ y ≤ 5) ∨ a = 733 ∨ (941 ≤ a ∧ (a - 941) % 53 = 8) ∨ (964 + 53 * X ≤ a ∧ 1 ≤ (a - 964) % 53 ∧ (a - 964) % 53 ≤ 3) → M' a y = M a y
abbrev kpC (X : Nat) (L L' : mwL) : Prop := ∀ a y, 293 + 36 * X ≤ a → (a - 293) % 36 = 34 → 32 ≤ y → L' a y = L a y
abbrev kpL (X : Nat) (L L' : mwL) : Prop := ∀ a y, 964 + 53 * X ≤ a → (a - 964) % 53 = 21 → 32 ≤ y → L' a y = L a y
