/-! a frame of the transfer has come: both sides -/
theorem DtF_s {Lc Lc' Lm Lm' : mwL} {X : Nat} (h : ∀ x, x < X → Lc (293 + 36 * x + 34) = Lm (964 + 53 * x + 21)) (hs : svL X Lc Lc' Lm Lm') : ∀ x, x < X → Lc' (293 + 36 * x + 34) = Lm' (964 + 53 * x + 21) := by
  rcases hs with ⟨e1, e2⟩ | ⟨x, dd, w, x1, x2, e1, e2⟩
  · rw [e1, e2]; exact h
  · rw [e1, e2]
    intro z hz
    apply funext
    intro k
    by_cases e : z = x ∧ k = dd
    · rw [e.1, e.2, mset_s, mset_s]
    · rw [mset_n (by omega), mset_n (by omega)]
      exact congrFun (h z hz) k
theorem maN_1 {c sz m : Nat} {n : Nat → Nat → Nat} : maN c sz n 1 m = if m = n 0 0 + 1 then c else n 1 m := by
  unfold maN
  rw [mset_n (by omega), mset_n (by omega), mset_n (by omega), mset_n (by omega)]
  by_cases e : m = n 0 0 + 1
  · rw [if_pos e, e, mset_s]
  · rw [if_neg e, mset_n (by omega)]
theorem maN_2 {c sz m : Nat} {n : Nat → Nat → Nat} (h : m ≤ n 0 0) : maN c sz n 2 m = n 2 m := by
  unfold maN
  rw [mset_n (by omega), mset_n (by omega), mset_n (by omega), mset_n (by omega), mset_n (by omega)]
theorem maN_00 {c sz : Nat} {n : Nat → Nat → Nat} : maN c sz n 0 0 = n 0 0 + 1 := by
  unfold maN
  rw [mset_s]
theorem maN_03 {c sz : Nat} {n : Nat → Nat → Nat} : maN c sz n 0 3 = n 0 3 := by
  unfold maN
  rw [mset_n (by omega), mset_n (by omega), mset_n (by omega), mset_n (by omega), mset_n (by omega)]
def ArQ (A M : mwM) (Lc Lm : mwL) (C S F W R X t E : Nat) (d : Nat → Nat → Nat) (tu : Nat → Bool) (g : Nat → Nat → Nat) (own Sb bd : Nat → Nat) (τ : Nat) (oc : Option (mwM × mwL)) (z : mwM × mwL) : Prop :=
  ∃ (A' : mwM) (Lc' : mwL) (p' : PB) (o' : Nat → Nat → Nat) (e' : Nat → Nat), oc = some (A', Lc') ∧ TkB A' z.1 Lc' z.2 S F W R X t E d tu g own Sb bd ∧ TrB A' z.1 z.2 C Sb p' o' e' ∧ p'.1 0 3 = τ ∧ trA A A' ∧ trM M z.1 ∧ trC Lc Lc' ∧ trL Lm z.2
theorem st_arrive {fu c C S F W R X t E : Nat} {tt : Bool} {a1 a2 : Int32} {d : Nat → Nat → Nat} {tu : Nat → Bool} {g : Nat → Nat → Nat} {own Sb bd : Nat → Nat} {A M : mwM} {Lc Lm : mwL} {p : PB} {o : Nat → Nat → Nat} {e : Nat → Nat} (hfu : 1700 ≤ fu) (hc : c < C) (hC6 : C ≤ 6) (hE : E < 800000000) (hB : TkB A M Lc Lm S F W R X t E d tu g own Sb bd) (hTr : TrB A M Lm C Sb p o e) : wq (DX19_arrive fu (sI (1536 + 2 * c + (if tt = true then 1 else 0))) M Lm) (ArQ A M Lc Lm C S F W R X t E d tu g own Sb bd (p.1 0 3) (fX1_takeOfTransfer_b40 fu a1 a2 (sI c) (bI tt) a1 A Lc)) := by
  obtain ⟨hv, hC, hM, hN, hT, hC1, h17, h3, hAn, hQu, hK16, hG⟩ := hTr
  obtain ⟨n0, n3, n1, n2, nb, nT⟩ := rch_n (c := c) (tt := tt) hv hT
  have hK := hv.1.1
  obtain ⟨⟨r, A1, L1⟩, z1, er, eL, tC, tV, fA⟩ := c_reach (fu := fu) (c := c) (tt := tt) (L := Lc) hfu (by omega) hv hC
  dsimp only at er eL tC fA
  subst er eL
  have hRTr : RTr A M W E := hB.2.2.2.2.2.1
  have hRCd : RCd A M Sb := hB.2.2.2.2.2.2.1
  have hO : ChO A M X own := hB.2.1
  have hD : ∀ x, x < X → L1 (293 + 36 * x + 34) = Lm (964 + 53 * x + 21) := fun x hx => by
    obtain ⟨_, _, _, _, _, q⟩ := hB.2.2.2.1 x hx
    exact q
  have e3 : (3 : Int32).toNatClampNeg = 3 := rfl
  have trA1 : trA A A1 := fun a y u1 u2 u3 u4 u5 u6 u7 => fA a y (by omega)
  -- what holds behind the reach
  have base : ∀ (M' : mwM) (L' : mwL) (e' : Nat → Nat), TfM M' L' (p.1 0 3) (rchP c tt p).1.1 (rchP c tt p).1.2 o e' → TfN M' (rchP c tt p).1.1 (rchP c tt p).1.2 e' → aFr M M' → rFl Lm L' → TkB A1 M' L1 L' S F W R X t E d tu g own Sb bd ∧ TrB A1 M' L' C Sb (rchP c tt p).1 o e' ∧ trM M M' ∧ trL Lm L' := by
    intro M' L' e' k1 k2 k3 k4
    have tM : trM M M' := fun a y u1 u2 u3 u4 u5 u6 u7 u8 u9 => k3 a y (by omega)
    have tL : trL Lm L' := fun a y u1 u2 => k4 a y (by omega)
    have D' : ∀ x, x < X → L1 (293 + 36 * x + 34) = L' (964 + 53 * x + 21) := fun x hx => by rw [show L' (964 + 53 * x + 21) = Lm (964 + 53 * x + 21) from funext (fun y => k4 _ _ (by omega))]; exact hD x hx
    have T' : RTr A1 M' W E := RTr_fr hRTr (fun a y u1 u2 => fA a y (by omega)) (fun a y u1 u2 u3 => k3 a y (by omega))
    have R' : RCd A1 M' Sb := RCd_fr hRCd (fun a y u1 u2 => fA a y (by omega)) (fun a y u => k3 a y (by omega))
    refine ⟨TkB_tr hB trA1 tM (fun _ _ _ => rfl) tL T' R' D', ⟨tV, tC, by rw [n3]; exact k1, k2, by rw [n3]; exact nT, fun m m1 m2 => by rw [n1]; exact hC1 m m1 (by omega), ?_, ?_, ?_, ?_, KnC_f hK16 (by omega) (fun a y u1 u2 => fA a y (by omega)), rch_g hG⟩, tM, tL⟩
    · rw [fA _ _ (by omega), k3 _ _ (by omega)]; exact h17
    · rw [fA _ _ (by omega), k3 _ _ (by omega)]; exact h3
    · rcases hAn with ⟨q1, q2⟩ | ⟨m, m1, m2, m3, m4, m5⟩
      · exact Or.inl ⟨by rw [fA _ _ (by omega)]; exact q1, by rw [k3 _ _ (by omega)]; exact q2⟩
      · exact Or.inr ⟨m, m1, by omega, by rw [fA _ _ (by omega)]; exact m3, by rw [k3 _ _ (by omega), n2]; exact m4, fun j hj => by rw [n2] at hj; rw [k3 _ _ (by omega)]; exact m5 j hj⟩
    · exact QuR_fr hQu (fun a y u => fA a y (by omega)) (fun a y u => k3 a y (by omega))
  have eX : fX1_takeOfTransfer_b40 fu a1 a2 (sI c) (bI tt) a1 A L1 = (if sI (rchP c tt p).2 = 0 then some (A1, L1) else mb3 (DX9_isQuestion fu (sI (rchP c tt p).2) A1 L1) (fun r10 M8 L9 => (if r10 = 0 then (if sI c = (M8 3 17) then some (mset (mset (mset M8 3 18 (sI (rchP c tt p).2)) 3 17 (-1)) 292 3 (mset (mset M8 3 18 (sI (rchP c tt p).2)) 3 17 (-1) 292 3 + 1), L9) else some (M8, L9)) else mck (sI (rchP c tt p).2) 101 (mck (sI (rchP c tt p).2) 101 (mb2 (DX7_makeReply fu (sI c) ((162 + (sI (rchP c tt p).2).toNatClampNeg)) 100 (M8 158 (sI (rchP c tt p).2).toNatClampNeg) M8 L9) (fun M21 L22 => mb2 (DX9_make fu (sI c) 0 282 20 (M21 275 7) M21 L22) (fun M23 L24 => some (M23, L24)))))))) := by
    unfold fX1_takeOfTransfer_b40
    rw [if_pos rfl, z1, mb3_s]
    rfl
  rw [eX]
  refine m_arrive hfu (by omega) hv hM hN (fun M' L' e' k1 k2 k3 k4 k5 => ?_) (fun M' L' e' m k1 k2 k3 k4 k5 k6 k7 k8 k9 k10 => ?_) (fun M' L' e' m k1 k2 k3 k4 k5 k6 k7 k8 k9 k10 => ?_)
  · obtain ⟨b1, b2, b3, b4⟩ := base M' L' e' k1 k2 k3 k4
    exact ⟨A1, L1, (rchP c tt p).1, o, e', by rw [k5, if_pos (show sI 0 = 0 from rfl)], b1, b2, n3, trA1, b3, fun _ _ _ => rfl, b4⟩
  · -- a question
    obtain ⟨b1, b2, b3, b4⟩ := base M' L' e' k1 k2 k3 k4
    obtain ⟨_, _, _, _, _, c6, c7, c8, c9, c10, c11, c12⟩ := b2
    rw [← k5]
    obtain ⟨_, _, s2, _⟩ := hv.2.1 m k6 k7
    have s1 := (hv.2.1 m k6 k7).2.1
    have hrow : ∀ i, i < p.1 2 m → A1 (162 + m) i = sI (o m i) ∧ M' 932 i = sI (o m i) ∧ o m i < 256 := fun i hi => by
      obtain ⟨_, _, _, _, _, q⟩ := tC.2.1 m k6 (by omega)
      rw [n2] at q
      obtain ⟨q2, _⟩ := hM.2.2.1 m k6 k7
      exact ⟨q i hi, k9 i hi, (q2 i hi).2⟩
    have h158 : A1 158 m = sI (p.1 2 m) := by
      obtain ⟨_, _, q, _⟩ := tC.2.1 m k6 (by omega)
      rw [n2] at q
      exact q
    have sv := st_serve (fu := fu) (c := c) (row := 162 + m) (n := p.1 2 m) (N := W) (E := E) (X := X) (own := own) (S := Sb) (A := A1) (M := M') (Lc := L1) (Lm := L') (o := o m) (by omega) (by omega) (by omega) c10 b1.2.2.2.2.2.1 b1.2.2.2.2.2.2.1 c11 b1.2.1 (fun x hx dd _ => by
      obtain ⟨_, _, _, _, _, q⟩ := b1.2.2.2.1 x hx
      exact congrFun q dd) (by omega) (by omega) s1 (by omega) hrow
    obtain ⟨A2, Lc2, M2, Lm2, sz, v, w1, w2, ⟨w3, w4, w5⟩, w6, w7, w8, w9, w10, w11, w12, w13⟩ := sv
    have isq := c_isQuestion (fu := fu) (L := L1) tC (by omega) k6 (by omega)
    rw [nb, k10] at isq
    have m0 : ¬ sI m = 0 := by rw [show (0 : Int32) = sI 0 from rfl, sI_eq (by omega) (by omega)]; omega
    rw [if_neg m0, isq, mb3_s, bI_t, if_neg (show ¬ (1 : Int32) = 0 by decide), mck_s (show m < 101 by omega) (by omega), mck_s (show m < 101 by omega) (by omega), sI_nn (show m < 2000000000 by omega), h158, w1, mb2_s, w2, mb2_s, mck_s (show m < 101 by omega) (by omega), w11]
    have D2 : ∀ x, x < X → Lc2 (293 + 36 * x + 34) = Lm2 (964 + 53 * x + 21) := DtF_s (fun x hx => by
      obtain ⟨_, _, _, _, _, q⟩ := b1.2.2.2.1 x hx
      exact q) w5
    have lc2 : trC L1 Lc2 := fun a y u => by
      rcases w5 with ⟨e1, e2⟩ | ⟨x, dd, w, x1, x2, e1, e2⟩
      · rw [e1]
      · rw [e1, mset_n (by omega)]
    have lm2 : trL L' Lm2 := fun a y u1 u2 => by
      rcases w5 with ⟨e1, e2⟩ | ⟨x, dd, w, x1, x2, e1, e2⟩
      · rw [e2]
      · rw [e2, mset_n (by omega)]
    have lm2' : ∀ a y, 869 ≤ a → a ≤ 901 → Lm2 a y = L' a y := fun a y u1 u2 => by
      rcases w5 with ⟨e1, e2⟩ | ⟨x, dd, w, x1, x2, e1, e2⟩
      · rw [e2]
      · rw [e2, mset_n (by omega)]
    have tC2 : TfC A2 (rchP c tt p).1.1 (rchP c tt p).1.2 o := TfC_w tC (by omega) (fun a y u1 u2 => w3 a y (by omega))
    have tM2 : TfM M2 Lm2 ((rchP c tt p).1.1 0 3) (rchP c tt p).1.1 (rchP c tt p).1.2 o e' := by
      rw [n3]
      exact TfM_fr k1 (fun a y u1 u2 u3 u4 => w4 a y (by omega) (fun x hx => by omega)) lm2'
    have tN2 : TfN M2 (rchP c tt p).1.1 (rchP c tt p).1.2 e' := TfN_fr k2 (fun a y u => w4 a y (by omega) (fun x hx => by omega))
    have e927 : M2 927 m = sI c := by rw [(tN2.2.1 m k6 (by omega)).1, n1, k8]
    have sA : ∀ a y, ¬ (154 ≤ a ∧ a ≤ 273) → ¬ (275 ≤ a ∧ a ≤ 282) → ¬ (137 ≤ a ∧ a ≤ 138) → ¬ (a = 139 ∧ y = 3) → ¬ (146 ≤ a ∧ a ≤ 150) → A2 a y = A a y := fun a y u1 u2 u3 u4 u5 => by rw [w3 a y (by omega)]; exact fA a y (by omega)
    have sM : ∀ a y, ¬ (a = 732 ∧ (y = 91 ∨ y = 95 ∨ y = 102 ∨ y = 108)) → ¬ (869 ≤ a ∧ a ≤ 920) → ¬ (929 ≤ a ∧ a ≤ 938 ∧ a ≠ 931) → a ≠ 854 → a ≠ 858 → a ≠ 859 → ¬ (863 ≤ a ∧ a ≤ 867) → ¬ (964 ≤ a ∧ (a - 964) % 53 = 0 ∧ y = 0) → M2 a y = M a y := fun a y u1 u2 u3 u4 u5 u6 u7 u8 => by rw [w4 a y (by omega) (fun x hx => by omega)]; exact k3 a y (by omega)
    rw [e927]
    -- the message goes, or there is no room
    have fin : ∀ (A3 M3 : mwM) (p' : PB) (o' : Nat → Nat → Nat), TfV p'.1 p'.2 → TfC A3 p'.1 p'.2 o' → TfM M3 Lm2 (p'.1 0 3) p'.1 p'.2 o' e' → TfN M3 p'.1 p'.2 e' → TfT p'.1 (p'.1 0 3) → p'.1 0 3 = p.1 0 3 → p.1 0 0 ≤ p'.1 0 0 → (∀ m, 1 ≤ m → m ≤ p'.1 0 0 → p'.1 1 m < C) → (∀ m, m ≤ p.1 0 0 → p'.1 2 m = p.1 2 m) → (∀ m, m ≤ p.1 0 0 → ∀ j, o' m j = o m j) → (∀ a y, ¬ (154 ≤ a ∧ a ≤ 273) → A3 a y = A2 a y) → (∀ a y, ¬ (a = 732 ∧ y = 88) → ¬ (869 ≤ a ∧ a ≤ 871) → ¬ (a = 927 ∨ a = 928) → M3 a y = M2 a y) → (∀ f, p'.1 0 2 ≤ f → f < p'.1 0 1 → p'.2 1 f = false) → ArQ A M L1 Lm C S F W R X t E d tu g own Sb bd (p.1 0 3) (some (A3, Lc2)) (M3, Lm2) := by
      intro A3 M3 p' o' q1 q2 q3 q4 q5 q6 q7 q8 q9 q10 q11 q12 q13
      have tA : trA A A3 := fun a y u1 u2 u3 u4 u5 u6 u7 => by rw [q11 a y u1]; exact sA a y u1 u2 u3 u4 u5
      have tM : trM M M3 := fun a y u1 u2 u3 u4 u5 u6 u7 u8 u9 => by rw [q12 a y (by omega) (by omega) (by omega)]; exact sM a y (by omega) (by omega) (by omega) (by omega) (by omega) (by omega) (by omega) (by omega)
      have tL : trL Lm Lm2 := fun a y u1 u2 => by rw [lm2 a y u1 u2]; exact b4 a y u1 u2
      refine ⟨A3, Lc2, p', o', e', rfl, TkB_tr hB tA tM lc2 tL (RTr_fr w7 (fun a y u1 u2 => q11 a y (by omega)) (fun a y u1 u2 u3 => q12 a y (by omega) (by omega) (by omega))) (RCd_fr w8 (fun a y u1 u2 => q11 a y (by omega)) (fun a y u => q12 a y (by omega) (by omega) (by omega))) D2, ⟨q1, q2, q3, q4, q5, q8, ?_, ?_, ?_, QuR_fr w6 (fun a y u => q11 a y (by omega)) (fun a y u => q12 a y (by omega) (by omega) (by omega)), KnC_f c11 (by omega) (fun a y u1 u2 => by rw [q11 a y (by omega)]; exact w3 a y (by omega)), q13⟩, q6, tA, tM, lc2, tL⟩
      · dsimp only
        rw [q11 _ _ (by omega), sA _ _ (by omega) (by omega) (by omega) (by omega) (by omega), q12 _ _ (by omega) (by omega) (by omega), sM _ _ (by omega) (by omega) (by omega) (by omega) (by omega) (by omega) (by omega) (by omega)]; exact h17
      · dsimp only
        rw [q11 _ _ (by omega), sA _ _ (by omega) (by omega) (by omega) (by omega) (by omega), q12 _ _ (by omega) (by omega) (by omega), sM _ _ (by omega) (by omega) (by omega) (by omega) (by omega) (by omega) (by omega) (by omega)]; exact h3
      · rcases hAn with ⟨y1, y2⟩ | ⟨x, m1, m2, m3, m4, m5⟩
        · exact Or.inl ⟨by rw [q11 _ _ (by omega), sA _ _ (by omega) (by omega) (by omega) (by omega) (by omega)]; exact y1, by dsimp only; rw [q12 _ _ (by omega) (by omega) (by omega), sM _ _ (by omega) (by omega) (by omega) (by omega) (by omega) (by omega) (by omega) (by omega)]; exact y2⟩
        · exact Or.inr ⟨x, m1, by omega, by rw [q11 _ _ (by omega), sA _ _ (by omega) (by omega) (by omega) (by omega) (by omega)]; exact m3, by dsimp only; rw [q12 _ _ (by omega) (by omega) (by omega), sM _ _ (by omega) (by omega) (by omega) (by omega) (by omega) (by omega) (by omega) (by omega), q9 x m2]; exact m4, fun j hj => by
            rw [q9 x m2] at hj
            dsimp only
            rw [q12 _ _ (by omega) (by omega) (by omega), sM _ _ (by omega) (by omega) (by omega) (by omega) (by omega) (by omega) (by omega) (by omega), q10 x m2]
            exact m5 j hj⟩
    by_cases full : p.1 0 0 = 100
    · have f1 : A2 154 5 = sI 100 := by rw [tC2.1.1, n0, full]
      rw [c_make9n f1, mb2_s, m_say19n (sz := 0) tM2 (show sz ≤ 100 by omega) w12 (by rw [n0]; exact full)]
      refine wq_eq rfl (fin A2 (mset M2 869 0 0) (rchP c tt p).1 o tV tC2 (TfM_fr tM2 (fun a y u1 u2 u3 u4 => by rw [mset_n (by omega)]) (fun _ _ _ _ => rfl)) (TfN_fr tN2 (fun a y u => by rw [mset_n (by omega)])) (by rw [n3]; exact nT) n3 (by omega) (fun m m1 m2 => by rw [n1]; exact hC1 m m1 (by omega)) (fun m _ => n2 m) (fun _ _ _ => rfl) (fun _ _ _ => rfl) (fun a y u1 u2 u3 => by rw [mset_n (by omega)]) c12)
    · have mk := c_make9 (fu := fu) (c := c) (a3 := 282) (n3 := 20) (sz := sz) (a := false) (L := Lc2) (v := v) (by omega) tV tC2 (by omega) (by omega) (by omega) (by omega) (fun i hi => (w13 i hi).2.1)
      have sy := m_say19 (fu := fu) (c := c) (sz := sz) (a := false) (M := M2) (L := Lm2) (v := v) (by omega) tV tM2 tN2 (by omega) w12 (fun i hi => ⟨(w13 i hi).2.2, (w13 i hi).1⟩) (by omega)
      obtain ⟨⟨A3, L3⟩, x1, x2, x3, x4⟩ := mk
      obtain ⟨⟨M3, L4⟩, y1, y2, y3, y4, y5⟩ := sy
      dsimp only at x2 x3 x4 y2 y3 y4 y5
      subst x2 y2
      have x1' : DX9_make fu (sI c) 0 282 20 (sI sz) A2 L3 = some (A3, L3) := x1
      have y1' : DX19_say fu (sI c) 0 M2 L4 = some (M3, L4) := y1
      rw [x1', mb2_s, y1', mb2_s]
      have hc6 : c < 6 := by omega
      refine wq_eq rfl (fin A3 M3 (maN c sz (rchP c tt p).1.1, maB false (rchP c tt p).1.1 (rchP c tt p).1.2) (maO v (rchP c tt p).1.1 o) (V_ma tV (by omega) hc6 (by omega)) x3 ?_ y4 (T_ma (by rw [n3]; exact nT)) ?_ ?_ (fun m m1 m2 => ?_) (fun m m1 => ?_) (fun m m1 j => ?_) (fun a y u => x4 a y (by omega)) (fun a y u1 u2 u3 => y5 a y (by omega)) (fun f u1 u2 => ?_))
      · dsimp only
        rw [maN_03]
        exact y3
      · dsimp only
        rw [maN_03]
        exact n3
      · dsimp only
        rw [maN_00]
        omega
      · dsimp only at m2 ⊢
        rw [maN_00] at m2
        rw [maN_1]
        by_cases e1 : m = (rchP c tt p).1.1 0 0 + 1
        · rw [if_pos e1]; exact hc
        · rw [if_neg e1, n1]; exact hC1 m m1 (by omega)
      · dsimp only
        rw [maN_2 (by omega)]
        exact n2 m
      · unfold maO
        rw [if_neg (by omega)]
      · dsimp only at u1 u2 ⊢
        rw [ma_o (by omega) (by omega)] at u1 u2
        unfold maB
        rw [mset_n (by omega), mset_n (by omega)]
        exact c12 f u1 u2
  · -- an answer
    obtain ⟨b1, b2, b3, b4⟩ := base M' L' e' k1 k2 k3 k4
    obtain ⟨d1, d2, d3, d4, d5, c6, c7, c8, c9, c10, c11, c12⟩ := b2
    rw [← k5]
    have s2 := (hv.2.1 m k6 k7).2.2.1
    have isq := c_isQuestion (fu := fu) (L := L1) tC (by omega) k6 (by omega)
    rw [nb, k10] at isq
    have m0 : ¬ sI m = 0 := by rw [show (0 : Int32) = sI 0 from rfl, sI_eq (by omega) (by omega)]; omega
    rw [if_neg m0, isq, mb3_s, bI_f, if_pos (show (0 : Int32) = 0 from rfl), c7]
    by_cases aw : M' 732 97 = sI c
    · rw [if_pos aw, if_pos aw.symm]
      generalize hM1 : mset M' 732 98 (sI (p.1 2 m)) = M1
      have tM1 : ∀ a y, ¬ (a = 732 ∧ y = 98) → M1 a y = M' a y := fun a y u => by rw [← hM1, mset_n u]
      have loop : ∀ (r j q : Nat) (B : mwM), j + r = p.1 2 m → r < q → (∀ x, x < j → B 931 x = sI (o m x)) → (∀ a y, a ≠ 931 → B a y = M1 a y) → ∃ B', fX19_arrive_h255 fu (sI (1536 + 2 * c + (if tt = true then 1 else 0))) q (sI (p.1 2 m), sI j, B, L') = some (mset (mset B' 939 3 (B' 939 3 + 1)) 732 97 (-1), L') ∧ (∀ x, x < p.1 2 m → B' 931 x = sI (o m x)) ∧ ∀ a y, a ≠ 931 → B' a y = M1 a y := by
        intro r
        induction r with
        | zero =>
          intro j q B hj hq h1 h2
          obtain ⟨q', rfl⟩ : ∃ y, q = y + 1 := ⟨q - 1, by omega⟩
          refine ⟨B, ?_, fun x hx => h1 x (by omega), h2⟩
          show fX19_arrive_i255 fu _ (fX19_arrive_h255 fu _ q') (sI (p.1 2 m)) (sI j) B L' = _
          unfold fX19_arrive_i255 fX19_arrive_b297
          rw [if_pos (by rw [sI_le (by omega) (by omega)]; omega), mlet_e, mlet_e, e3]
        | succ r ih =>
          intro j q B hj hq h1 h2
          obtain ⟨q', rfl⟩ : ∃ y, q = y + 1 := ⟨q - 1, by omega⟩
          have un : fX19_arrive_h255 fu (sI (1536 + 2 * c + (if tt = true then 1 else 0))) (q' + 1) (sI (p.1 2 m), sI j, B, L') = fX19_arrive_i255 fu (sI (1536 + 2 * c + (if tt = true then 1 else 0))) (fX19_arrive_h255 fu (sI (1536 + 2 * c + (if tt = true then 1 else 0))) q') (sI (p.1 2 m)) (sI j) B L' := rfl
          rw [un]
          unfold fX19_arrive_i255
          rw [if_neg (by rw [sI_le (by omega) (by omega)]; omega), mck_s (by omega) (by omega), mck_s (by omega) (by omega), mlet_e, mlet_e, sI_nn (by omega), h2 932 j (by omega), tM1 932 j (by omega), k9 j (by omega), sI_1]
          refine ih (j + 1) q' _ (by omega) (by omega) (fun x hx => ?_) (fun a y u => by rw [mset_n (by omega)]; exact h2 a y u)
          by_cases ex : x = j
          · rw [ex, mset_s]
          · rw [mset_n (by omega)]; exact h1 x (by omega)
      obtain ⟨B', l1, l2, l3⟩ := loop (p.1 2 m) 0 fu M1 (by omega) (by omega) (fun x hx => by omega) (fun _ _ _ => rfl)
      have l1' : fX19_arrive_h255 fu (sI (1536 + 2 * c + (if tt = true then 1 else 0))) fu (sI (p.1 2 m), 0, M1, L') = _ := l1
      rw [l1']
      generalize hM3 : mset (mset B' 939 3 (B' 939 3 + 1)) 732 97 (-1) = M3
      have tM3 : ∀ a y, a ≠ 931 → ¬ (a = 732 ∧ (y = 97 ∨ y = 98)) → ¬ (a = 939 ∧ y = 3) → M3 a y = M' a y := fun a y u1 u2 u3 => by rw [← hM3, mset_n (by omega), mset_n (by omega), l3 a y u1]; exact tM1 a y (by omega)
      generalize hA3 : mset (mset (mset A1 3 18 (sI m)) 3 17 (-1)) 292 3 (mset (mset A1 3 18 (sI m)) 3 17 (-1) 292 3 + 1) = A3
      have tA3 : ∀ a y, ¬ (a = 3 ∧ (y = 17 ∨ y = 18)) → ¬ (a = 292 ∧ y = 3) → A3 a y = A1 a y := fun a y u1 u2 => by rw [← hA3, mset_n (by omega), mset_n (by omega), mset_n (by omega)]
      have gA : trA A A3 := fun a y u1 u2 u3 u4 u5 u6 u7 => by rw [tA3 a y u6 u7]; exact trA1 a y u1 u2 u3 u4 u5 u6 u7
      have gM : trM M M3 := fun a y u1 u2 u3 u4 u5 u6 u7 u8 u9 => by rw [tM3 a y (by omega) (by omega) u4]; exact b3 a y u1 u2 u3 u4 u5 u6 u7 u8 u9
      refine wq_eq rfl ⟨A3, L1, (rchP c tt p).1, o, e', rfl, TkB_tr hB gA gM (fun _ _ _ => rfl) b4 (RTr_fr b1.2.2.2.2.2.1 (fun a y u1 u2 => tA3 a y (by omega) (by omega)) (fun a y u1 u2 u3 => tM3 a y (by omega) (by omega) (by omega))) (RCd_fr b1.2.2.2.2.2.2.1 (fun a y u1 u2 => tA3 a y (by omega) (by omega)) (fun a y u => tM3 a y (by omega) (by omega) (by omega))) (fun x hx => by
        obtain ⟨_, _, _, _, _, q⟩ := b1.2.2.2.1 x hx
        exact q), ⟨tV, TfC_w tC (by omega) (fun a y u1 u2 => tA3 a y (by omega) (by omega)), TfM_fr d3 (fun a y u1 u2 u3 u4 => tM3 a y (by omega) (by omega) (by omega)) (fun _ _ _ _ => rfl), TfN_fr k2 (fun a y u => tM3 a y (by omega) (by omega) (by omega)), d5, c6, ?_, ?_, Or.inr ⟨m, k6, by omega, ?_, ?_, fun j hj => ?_⟩, QuR_fr c10 (fun a y u => tA3 a y (by omega) (by omega)) (fun a y u => tM3 a y (by omega) (by omega) (by omega)), KnC_f c11 (by omega) (fun a y u1 u2 => tA3 a y (by omega) (by omega)), c12⟩, n3, gA, gM, fun _ _ _ => rfl, b4⟩
      · dsimp only
        rw [← hA3, ← hM3, mset_n (by omega), mset_s, mset_s]
      · dsimp only
        rw [← hA3, ← hM3, mset_s, mset_n (by omega), mset_n (by omega), mset_n (by omega), mset_s, l3 _ _ (by omega), tM1 _ _ (by omega), c8]
      · rw [← hA3, mset_n (by omega), mset_n (by omega), mset_s]
      · dsimp only
        rw [n2, ← hM3, mset_n (by omega), mset_n (by omega), l3 _ _ (by omega), ← hM1, mset_s]
      · dsimp only
        rw [n2] at hj
        rw [← hM3, mset_n (by omega), mset_n (by omega)]
        exact l2 j hj
    · rw [if_neg aw, if_neg (fun w => aw w.symm)]
      exact wq_eq rfl ⟨A1, L1, (rchP c tt p).1, o, e', rfl, b1, ⟨d1, d2, d3, d4, d5, c6, c7, c8, c9, c10, c11, c12⟩, n3, trA1, b3, fun _ _ _ => rfl, b4⟩
