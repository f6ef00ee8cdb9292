/-! frames as both sides keep them while the car runs -/
def FrS (A M : mwM) (S F : Nat) (d : Nat → Nat → Nat) (tu : Nat → Bool) : Prop :=
  A 61 10 = sI S ∧ M 732 45 = sI S ∧ S ≤ 40 ∧ A 61 11 = sI F ∧ M 732 67 = sI F ∧ F ≤ 40 ∧
  (∀ f, f < F → FrT A M f (d 10 f) (d 11 f) (d 12 f) (d 13 f) ∧ A 78 f = sI (posf (d 11) F f) ∧ A 80 (posf (d 11) F f) = sI f ∧ M 784 f = sI (posf (d 11) F f)) ∧
  (∀ s, s < S → d 6 s < F ∧ d 10 (d 6 s) = d 2 s ∧ d 11 (d 6 s) = d 1 s ∧ d 12 (d 6 s) = d 3 s ∧ SgT A M s (d 6 s) (d 7 s) (d 8 s) (d 9 s) (d 0 s) (tu s) (d 2 s) (d 3 s) (d 13 (d 6 s)) ∧ A 63 s = sI (d 0 s) ∧ M 761 s = sI (d 0 s) ∧ 1 ≤ d 0 s ∧ d 0 s ≤ 64 ∧ A 67 s = bI (tu s) ∧ M 765 s = bI (tu s) ∧ A 64 s = sI (d 4 s) ∧ M 762 s = sI (d 4 s) ∧ d 4 s < 12 ∧ A 65 s = sI (d 5 s) ∧ M 763 s = sI (d 5 s) ∧ d 5 s < 32 ∧ A 66 s = sI (d 1 s) ∧ M 764 s = sI (d 1 s) ∧ 500 ≤ d 1 s ∧ d 1 s ≤ 20000) ∧
  FiD S (d 0) (d 6) (d 7) ∧ ∀ f g, f < F → g < F → pkn (d 10 f) (d 12 f) = pkn (d 10 g) (d 12 g) → d 13 f = d 13 g → f = g
theorem pkn_12 {c y : Nat} (h : c < 6) : pkn c y < 12 := by unfold pkn; split <;> omega
theorem FrS_f {A A' M M' : mwM} {S F : Nat} {d : Nat → Nat → Nat} {tu : Nat → Bool} (h : FrS A M S F d tu) (hA : ∀ a y, (a = 61 ∧ (y = 10 ∨ y = 11)) ∨ (63 ≤ a ∧ a ≤ 67) ∨ a = 71 ∨ a = 72 ∨ (74 ≤ a ∧ a ≤ 76) ∨ a = 78 ∨ a = 80 → A' a y = A a y) (hM : ∀ a y, (a = 732 ∧ (y = 45 ∨ y = 67)) ∨ (761 ≤ a ∧ a ≤ 768) ∨ (779 ≤ a ∧ a ≤ 784) ∨ (941 ≤ a ∧ a < 1577 ∧ (a - 941) % 53 ≤ 14 ∧ ¬ ((a - 941) % 53 = 0 ∧ y = 0)) → M' a y = M a y) : FrS A' M' S F d tu := by
  obtain ⟨h1, h2, h3, h4, h5, h6, h7, h8, h9, h10⟩ := h
  refine ⟨by rw [hA _ _ (by omega)]; exact h1, by rw [hM _ _ (by omega)]; exact h2, h3, by rw [hA _ _ (by omega)]; exact h4, by rw [hM _ _ (by omega)]; exact h5, h6, fun f hf => ?_, fun s hs => ?_, h9, h10⟩
  · obtain ⟨⟨a1, a2, a3, a4, a5, a6, a7, a8, a9, a10, a11, a12, a13, a14, a15, a16, a17⟩, b1, b2, b3⟩ := h7 f hf
    have hp := pkn_12 (y := d 12 f) a11
    exact ⟨⟨by rw [hA _ _ (by omega)]; exact a1, by rw [hA _ _ (by omega)]; exact a2, by rw [hA _ _ (by omega)]; exact a3, by rw [hM _ _ (by omega)]; exact a4, by rw [hM _ _ (by omega)]; exact a5, by rw [hM _ _ (by omega)]; exact a6, by rw [hM _ _ (by omega)]; exact a7, by rw [hM _ _ (by omega)]; exact a8, a9, a10, a11, a12, a13, a14, by rw [hM _ _ (by omega)]; exact a15, by rw [hM _ _ (by omega)]; exact a16, by rw [hM _ _ (by omega)]; exact a17⟩, by rw [hA _ _ (by omega)]; exact b1, by rw [hA _ _ (by omega)]; exact b2, by rw [hM _ _ (by omega)]; exact b3⟩
  · obtain ⟨k1, k2, k3, k4, ⟨b1, b2, b3, b4, b5, b6, b7, b8, b9, b10, b11, b12, b13, b14, b15, b16⟩, c1, c2, c3, c4, c5, c6, c7, c8, c9, c10, c11, c12, c13, c14, c15, c16⟩ := h8 s hs
    have a11 := (h7 _ k1).1.2.2.2.2.2.2.2.2.2.2.1
    rw [k2] at a11
    have hp := pkn_12 (y := d 3 s) a11
    exact ⟨k1, k2, k3, k4, ⟨by rw [hA _ _ (by omega)]; exact b1, by rw [hA _ _ (by omega)]; exact b2, by rw [hM _ _ (by omega)]; exact b3, by rw [hM _ _ (by omega)]; exact b4, by rw [hM _ _ (by omega)]; exact b5, b6, b7, b8, b9, by rw [hM _ _ (by omega)]; exact b10, by rw [hM _ _ (by omega)]; exact b11, by rw [hM _ _ (by omega)]; exact b12, by rw [hM _ _ (by omega)]; exact b13, by rw [hM _ _ (by omega)]; exact b14, by rw [hM _ _ (by omega)]; exact b15, by rw [hM _ _ (by omega)]; exact b16⟩, by rw [hA _ _ (by omega)]; exact c1, by rw [hM _ _ (by omega)]; exact c2, c3, c4, by rw [hA _ _ (by omega)]; exact c5, by rw [hM _ _ (by omega)]; exact c6, by rw [hA _ _ (by omega)]; exact c7, by rw [hM _ _ (by omega)]; exact c8, c9, by rw [hA _ _ (by omega)]; exact c10, by rw [hM _ _ (by omega)]; exact c11, c12, by rw [hA _ _ (by omega)]; exact c13, by rw [hM _ _ (by omega)]; exact c14, c15, c16⟩
abbrev kFr (d : Nat → Nat → Nat) (f : Nat) : Nat := 941 + 53 * pkn (d 10 f) (d 12 f)
abbrev eF (d : Nat → Nat → Nat) (f : Nat) : Nat := (d 13 f - 1) * cpk (d 12 f)
abbrev HdF (M : mwM) (S : Nat) (d : Nat → Nat → Nat) (tu : Nat → Bool) (f : Nat) : Prop := HdI M S (d 0) (d 6) (d 7) tu f (kFr d f) (eF d f) (cpk (d 12 f))
theorem eF_le {i y : Nat} (h : i ≤ 40) : (i - 1) * cpk y ≤ 320 := Nat.le_trans (Nat.mul_le_mul (show i - 1 ≤ 40 by omega) cpk_8.1) (by omega)
theorem FrS_C {A M : mwM} {S F : Nat} {d : Nat → Nat → Nat} {tu : Nat → Bool} (h : FrS A M S F d tu) : FiC A S (d 0) (d 6) (d 7) (d 4) (d 5) tu := by
  obtain ⟨h1, h2, h3, h4, h5, h6, h7, h8, h9, h10⟩ := h
  refine ⟨h1, h3, fun s hs => ?_⟩
  obtain ⟨k1, k2, k3, k4, ⟨b1, b2, b3, b4, b5, b6, b7, b8, b9, b10, b11, b12, b13, b14, b15, b16⟩, c1, c2, c3, c4, c5, c6, c7, c8, c9, c10, c11, c12, c13, c14, c15, c16⟩ := h8 s hs
  have := cpk_8 (y := d 3 s)
  exact ⟨c1, c3, c4, c5, b1, by omega, b2, by show d 7 s + (d 0 s + 7) / 8 ≤ 8; omega, c7, c9, c10, c12⟩
theorem FrS_M {A M : mwM} {S F f : Nat} {d : Nat → Nat → Nat} {tu : Nat → Bool} (h : FrS A M S F d tu) (hf : f < F) : FiM M S (d 0) (d 6) (d 7) (d 4) (d 5) (d 8) (d 9) tu f (pkn (d 10 f) (d 12 f)) (d 13 f) (eF d f) (cpk (d 12 f)) (d 12 f) := by
  obtain ⟨h1, h2, h3, h4, h5, h6, h7, h8, h9, h10⟩ := h
  obtain ⟨⟨a1, a2, a3, a4, a5, a6, a7, a8, a9, a10, a11, a12, a13, a14, a15, a16, a17⟩, b1, b2, b3⟩ := h7 f hf
  refine ⟨h2, h3, a5, pkn_12 a11, a6, a9, a10, a15, rfl, a8, a12, a17, eF_le a10, fun s hs => ?_⟩
  obtain ⟨k1, k2, k3, k4, ⟨b1, b2, b3, b4, b5, b6, b7, b8, b9, b10, b11, b12, b13, b14, b15, b16⟩, c1, c2, c3, c4, c5, c6, c7, c8, c9, c10, c11, c12, c13, c14, c15, c16⟩ := h8 s hs
  refine ⟨b3, by omega, c8, c9, c11, c12, b5, fun w => ?_⟩
  rw [← k4, w] at b9
  rw [← k2, ← k4, w] at b10 b11 b12 b13 b14 b15 b16
  have := cpk_8 (y := d 12 f)
  exact ⟨b9, b10, b8, b6, b7, a16, b11, c3, c4, b12, b13, b14, b15, a9, a10, b16, a17, eF_le a10, by omega⟩
def BusE (A M : mwM) (N t : Nat) (ec tc fl : Nat → Nat) : Prop := ∃ (F : Nat) (ow id : Nat → Nat) (oc : Nat → Nat → Nat) (dn : Nat → Nat) (asl : Bool), BusR A M N t F ow id oc dn ec tc fl asl
theorem BusE_fr {A A' M M' : mwM} {N t : Nat} {ec tc fl : Nat → Nat} (h : BusE A M N t ec tc fl) (hA : ∀ a y, 20 ≤ a → a ≤ 60 → A' a y = A a y) (hM : ∀ a y, 821 ≤ a → a ≤ 853 → ¬ (a = 821 ∧ y = 0) → M' a y = M a y) : BusE A' M' N t ec tc fl := by
  obtain ⟨F, ow, id, oc, dn, asl, hB⟩ := h
  exact ⟨F, ow, id, oc, dn, asl, BusR_fr hB hA hM⟩
theorem st_sendFrame {fu f n S F N t ob : Nat} {d : Nat → Nat → Nat} {tu : Nat → Bool} {Sb ec tc fl : Nat → Nat} {A M : mwM} {Lc Lm : mwL} (hfu : 300 ≤ fu) (hS : FrS A M S F d tu) (hf : f < F) (hH : HdF M S d tu f) (hV : ∀ s, s < S → Lc (293 + 36 * d 4 s + 34) (d 5 s) = Lm (964 + 53 * d 4 s + 21) (d 5 s)) (h77 : A 77 f = sI n) (h785 : M 785 f = sI n) (hn : n < 900000) (hC : RCd A M Sb) (hK : d 12 f ≠ 0 → KnC A Sb (d 12 f)) (hB : BusE A M N t ec tc fl) (hN : d 10 f < N) (h292 : A 292 0 = M 939 0) (hob : M 732 91 = sI ob) (hob2 : ob < 6001) : ∃ A' M', DX1_sendFrame fu (sI f) A Lc = some (A', Lc) ∧ DX19_send fu (sI f) M Lm = some (M', Lm) ∧ A' 77 f = sI (n + 1) ∧ M' 785 f = sI (n + 1) ∧ RCd A' M' Sb ∧ BusE A' M' N t ec tc fl ∧ A' 292 0 = M' 939 0 ∧ HdF M' S d tu f ∧ (∀ a y, ¬ (a = 77 ∧ y = f) → ¬ (95 ≤ a ∧ a ≤ 96) → ¬ (137 ≤ a ∧ a ≤ 138) → ¬ (20 ≤ a ∧ a ≤ 60) → ¬ (a = 292 ∧ y = 0) → A' a y = A a y) ∧ ∀ a y, ¬ (a = 785 ∧ y = f) → a ≠ 926 → ¬ (a = 854 ∧ (y = 0 ∨ y = 6 ∨ y = 7)) → a ≠ 858 → a ≠ 859 → ¬ (863 ≤ a ∧ a ≤ 867) → ¬ (821 ≤ a ∧ a ≤ 853) → ¬ (a = 939 ∧ y = 0) → ¬ (a = kFr d f ∧ y = 0) → ¬ (a = kFr d f + 15 ∧ eF d f ≤ y ∧ y < eF d f + cpk (d 12 f)) → ¬ (964 ≤ a ∧ (a - 964) % 53 = 0 ∧ y = 0) → M' a y = M a y := by
  obtain ⟨h1, h2, h3, h4, h5, h6, h7, h8, h9, h10⟩ := id hS
  obtain ⟨⟨a1, a2, a3, a4, a5, a6, a7, a8, a9, a10, a11, a12, a13, a14, a15, a16, a17⟩, b1, b2, b3⟩ := h7 f hf
  have hpos := posf_lt (ev := d 11) hf
  have hcp := cpk_8 (y := d 12 f)
  have hpk := pkn_12 (y := d 12 f) a11
  have hkF : kFr d f = 941 + 53 * pkn (d 10 f) (d 12 f) := rfl
  obtain ⟨A1, c1, c2, c3, c4, c5⟩ := c_fill (fu := fu) (f := f) (L := Lc) (by omega) (by omega) (FrS_C hS) h9 (V := fun s => Lc (293 + 36 * d 4 s + 34) (d 5 s)) (fun _ _ => rfl)
  obtain ⟨M1, m1, m2, m3, m4, m5⟩ := m_sendO (fu := fu) (f := f) (L := Lm) (by omega) (by omega) (FrS_M hS hf) h9 hH (V := fun s => Lc (293 + 36 * d 4 s + 34) (d 5 s)) (fun s hs => (hV s hs).symm)
  try dsimp only at c3 m2
  -- the octets of both
  have hoc : ∃ oc : Nat → Nat, ∀ y, y < 8 → A1 95 y = sI (oc y) ∧ M1 926 y = sI (oc y) ∧ oc y < 256 := by
    have each : ∀ y, y < 8 → ∃ v, A1 95 y = sI v ∧ M1 926 y = sI v ∧ v < 256 := fun y hy => by
      rcases cover (S := S) (f := f) (y := y) (bt := d 0) (fs := d 6) (os := d 7) (tu := tu) with u | ⟨s, q, s1, s2, s3, s4⟩
      · exact ⟨0, c4 y hy u, m3 y hy u, by omega⟩
      · have w1 := c3 s s1 s2 q s3
        have w2 := m2 s s1 s2 q s3
        rw [s4] at w1 w2
        exact ⟨_, w1, w2, vq_lt⟩
    refine ⟨fun y => nn (A1 95 y), fun y hy => ?_⟩
    obtain ⟨v, v1, v2, v3⟩ := each y hy
    dsimp only
    rw [v1, v2, nn_s (by omega)]
    exact ⟨rfl, rfl, v3⟩
  obtain ⟨oc, hoc⟩ := hoc
  have tA : ∀ a y, ¬ (a = 77 ∧ y = f) → a ≠ 95 → A1 a y = A a y := fun a y w1 w2 => c5 a y w1 (by omega)
  have tM : ∀ a y, ¬ (a = kFr d f ∧ y = 0) → ¬ (a = kFr d f + 15 ∧ eF d f ≤ y ∧ y < eF d f + cpk (d 12 f)) → ¬ (964 ≤ a ∧ (a - 964) % 53 = 0 ∧ y = 0) → a ≠ 926 → M1 a y = M a y := fun a y w1 w2 w3 w4 => m5 a y w1 w2 w3 (by omega)
  have lM : ∀ a y, a < 941 → a ≠ 926 → M1 a y = M a y := fun a y w1 w2 => tM a y (by omega) (by omega) (by omega) w2
  have A77 : A1 77 f = sI (n + 1) := by rw [c2, h77, sI_1]
  have hC1 : RCd A1 M1 Sb := RCd_fr hC (fun a y w1 w2 => tA a y (by omega) (by omega)) (fun a y w => lM a y (by omega) (by omega))
  -- sealed
  have sealA : ∃ A2, (if sI (d 12 f) = 0 then fX1_sendFrame_b38 fu (sI f) A1 Lc else mb2 (DX6_seal fu (sI f) A1 Lc) (fun M18 L19 => fX1_sendFrame_b38 fu (sI f) M18 L19)) = fX1_sendFrame_b38 fu (sI f) A2 Lc ∧ (d 12 f = 0 → ∀ i, i < 8 → A2 95 i = sI (oc i)) ∧ (d 12 f ≠ 0 → (∀ i, i < 3 → A2 95 i = sI (oc i)) ∧ A2 95 3 = sI ((n + 1) % 256) ∧ ∀ i, i < 4 → A2 95 (4 + i) = sI (cdF Sb (d 12 f) (posf (d 11) F f) (n + 1) oc i) ∧ cdF Sb (d 12 f) (posf (d 11) F f) (n + 1) oc i < 256) ∧ ∀ a y, ¬ (95 ≤ a ∧ a ≤ 96) → ¬ (137 ≤ a ∧ a ≤ 138) → A2 a y = A1 a y := by
    by_cases z : d 12 f = 0
    · refine ⟨A1, by rw [if_pos (by rw [z]; rfl)], fun _ i hi => (hoc i hi).1, fun w => absurd z w, fun _ _ _ _ => rfl⟩
    · obtain ⟨k1, k2, k3⟩ := hK z
      obtain ⟨A2, q1, q2, q3, q4, q5⟩ := c_seal (fu := fu) (f := f) (n := n + 1) (P := posf (d 11) F f) (key := d 12 f) (A := A1) (M := M1) (L := Lc) (Sb := Sb) (oc := oc) (by omega) (by omega) (by omega) (by omega) A77 (by rw [tA _ _ (by omega) (by omega)]; exact b1) (by rw [tA _ _ (by omega) (by omega)]; exact a3) (by omega) hC1 ⟨by rw [tA _ _ (by omega) (by omega)]; exact k1, fun i u => by rw [tA _ _ (by omega) (by omega)]; exact k2 i u, fun i u => by rw [tA _ _ (by omega) (by omega)]; exact k3 i u⟩ (fun i hi => ⟨(hoc i (by omega)).1, (hoc i (by omega)).2.2⟩)
      refine ⟨A2, ?_, fun w => absurd w z, fun _ => ⟨q2, q3, q4⟩, fun a y w1 w2 => q5 a y (by omega) (by omega) (by omega) (by omega)⟩
      rw [if_neg (by rw [show (0 : Int32) = sI 0 from rfl, sI_eq (by omega) (by omega)]; exact z), q1, mb2_s]
  obtain ⟨A2, s1, s2, s3, s4⟩ := sealA
  obtain ⟨M2, r1, r2, r3, r4, r5, r6⟩ := m_seal (fu := fu) (f := f) (n := n) (P := posf (d 11) F f) (key := d 12 f) (k := 941 + 53 * pkn (d 10 f) (d 12 f)) (x := sI (cpk (d 12 f))) (A := A1) (M := M1) (L := Lm) (Sb := Sb) (oc := oc) (by omega) (by omega) (by omega) (by omega) (by rw [lM _ _ (by omega) (by omega)]; exact h785) (by rw [lM _ _ (by omega) (by omega)]; exact b3) (by rw [lM _ _ (by omega) (by omega)]; exact a8) a12 hC1 (fun i hi => ⟨(hoc i hi).2.1, (hoc i hi).2.2⟩)
  have h8o : ∃ q : Nat → Nat, ∀ i, i < 8 → q i < 256 ∧ A2 95 i = sI (q i) ∧ M2 926 i = sI (q i) := by
    refine ⟨fun i => nn (A2 95 i), fun i hi => ?_⟩
    have : ∃ v, v < 256 ∧ A2 95 i = sI v ∧ M2 926 i = sI v := by
      by_cases z : d 12 f = 0
      · exact ⟨oc i, (hoc i hi).2.2, s2 z i hi, r3 z i hi⟩
      · obtain ⟨u1, u2, u3⟩ := s3 z
        obtain ⟨v1, v2, v3⟩ := r4 z
        by_cases i3 : i < 3
        · exact ⟨oc i, (hoc i hi).2.2, u1 i i3, v1 i i3⟩
        · by_cases i4 : i = 3
          · subst i4
            exact ⟨_, Nat.mod_lt _ (by omega), u2, v2⟩
          · have w1 := u3 (i - 4) (by omega)
            have w2 := v3 (i - 4) (by omega)
            rw [show 4 + (i - 4) = i from by omega] at w1 w2
            exact ⟨_, w1.2, w1.1, w2⟩
    obtain ⟨v, v1, v2, v3⟩ := this
    dsimp only
    rw [v2, v3, nn_s (by omega)]
    exact ⟨v1, rfl, rfl⟩
  obtain ⟨q, hq⟩ := h8o
  obtain ⟨Fb, ow, idb, ocb, dn, asl, hBR⟩ := hB
  have hBR2 : BusR A2 M2 N t Fb ow idb ocb dn ec tc fl asl := BusR_fr hBR (fun a y w1 w2 => by rw [s4 a y (by omega) (by omega)]; exact tA a y (by omega) (by omega)) (fun a y w1 w2 w3 => by rw [r6 a y (by omega) (by omega) (by omega) (by omega) (by omega) (by omega)]; exact lM a y (by omega) (by omega))
  have gA : ∀ a y, ¬ (a = 77 ∧ y = f) → ¬ (95 ≤ a ∧ a ≤ 96) → ¬ (137 ≤ a ∧ a ≤ 138) → A2 a y = A a y := fun a y w1 w2 w3 => by rw [s4 a y w2 w3]; exact tA a y w1 (by omega)
  have gM : ∀ a y, ¬ (a = 785 ∧ y = f) → a ≠ 926 → ¬ (a = 854 ∧ (y = 0 ∨ y = 6 ∨ y = 7)) → a ≠ 858 → a ≠ 859 → ¬ (863 ≤ a ∧ a ≤ 867) → ¬ (a = kFr d f ∧ y = 0) → ¬ (a = kFr d f + 15 ∧ eF d f ≤ y ∧ y < eF d f + cpk (d 12 f)) → ¬ (964 ≤ a ∧ (a - 964) % 53 = 0 ∧ y = 0) → M2 a y = M a y := fun a y w1 w2 w3 w4 w5 w6 w7 w8 w9 => by rw [r6 a y w1 (by omega) w3 w4 w5 w6]; exact tM a y w7 w8 w9 w2
  have gHd : HdF M2 S d tu f := by
    obtain ⟨u1, u2⟩ := m4
    refine ⟨fun s q1 q2 q q3 => ?_, fun y hy hn => ?_⟩
    · obtain ⟨od, o1, o2⟩ := u1 s q1 q2 q q3
      exact ⟨od, by rw [r6 _ _ (by omega) (by omega) (by omega) (by omega) (by omega) (by omega)]; exact o1, o2⟩
    · rw [r6 _ _ (by omega) (by omega) (by omega) (by omega) (by omega) (by omega)]; exact u2 y hy hn
  have hC2 : RCd A2 M2 Sb := RCd_fr (A := A1) (M := M2) r5 (fun a y w1 w2 => s4 a y (by omega) (by omega)) (fun _ _ _ => rfl)
  have hob' : M2 732 91 = sI ob := by rw [gM _ _ (by omega) (by omega) (by omega) (by omega) (by omega) (by omega) (by omega) (by omega) (by omega)]; exact hob
  obtain ⟨r, A3, M3, z1, z2, z3, z4, z5⟩ := st_send (fu := fu) (n := d 10 f) (ident := 64 + 8 * posf (d 11) F f) (row := 95) (n3 := 8) (fr := 0) (ob := ob) (q := q) (Lc := Lc) (Lm := Lm) (by omega) hBR2 hN (by omega) hq (by omega) (by omega) (by omega) (by omega) hob' hob2
  have eA : DX1_sendFrame fu (sI f) A Lc = fX1_sendFrame_b38 fu (sI f) A2 Lc := by
    unfold DX1_sendFrame
    rw [c1, mb2_s, mck_s (by omega) (by omega), sI_nn (by omega), tA 76 f (by omega) (by omega), a3]
    exact s1
  have e74 : A2 74 f = sI (d 10 f) := by rw [gA _ _ (by omega) (by omega) (by omega)]; exact a1
  have e78 : A2 78 f = sI (posf (d 11) F f) := by rw [gA _ _ (by omega) (by omega) (by omega)]; exact b1
  have e779 : M2 779 f = sI (d 10 f) := by rw [gM _ _ (by omega) (by omega) (by omega) (by omega) (by omega) (by omega) (by omega) (by omega) (by omega)]; exact a4
  have e784 : M2 784 f = sI (posf (d 11) F f) := by rw [gM _ _ (by omega) (by omega) (by omega) (by omega) (by omega) (by omega) (by omega) (by omega) (by omega)]; exact b3
  have z2' : DX19_put fu (sI (d 10 f)) (sI (64 + 8 * posf (d 11) F f)) 0 M2 Lm = some (bI r, M3, Lm) := z2
  have eM : DX19_send fu (sI f) M Lm = some (M3, Lm) := by
    rw [m1, r1]
    unfold fX19_send_b217
    rw [mck_s (by omega) (by omega), mck_s (by omega) (by omega), sI_nn (by omega), e779, e784, sI_lml, sI_lad, z2', mb3_s]
  have e0 : (0 : Int32).toNatClampNeg = 0 := rfl
  rw [eA, eM]
  unfold fX1_sendFrame_b38 fX1_sendFrame_b84 DX6_identifierOf
  rw [mck_s (by omega) (by omega), mck_s (by omega) (by omega), mb3_s, sI_nn (by omega), e74, e78, sI_lml, sI_lad, z1, mb3_s, e0]
  cases hr : r with
  | false =>
    obtain ⟨y1, y2⟩ := z4 hr
    rw [bI_f, if_pos (show (0 : Int32) = 0 from rfl), mlet_e, y1, y2]
    have t3 : ∀ a y, ¬ (a = 821 ∧ y = 0) → ¬ (a = 939 ∧ y = 0) → mset (mset M2 821 0 3) 939 0 (M2 939 0 + 1) a y = M2 a y := fun a y w1 w2 => by rw [mset_n w2, mset_n w1]
    have t4 : ∀ a y, ¬ (a = 292 ∧ y = 0) → mset A2 292 0 (A2 292 0 + 1) a y = A2 a y := fun a y w1 => mset_n w1
    refine ⟨_, _, rfl, rfl, by rw [t4 _ _ (by omega), s4 _ _ (by omega) (by omega)]; exact A77, by rw [t3 _ _ (by omega) (by omega)]; exact r2, RCd_fr hC2 (fun a y w1 w2 => t4 a y (by omega)) (fun a y w => t3 a y (by omega) (by omega)), ⟨Fb, ow, idb, ocb, dn, asl, BusR_fr hBR2 (fun a y w1 w2 => t4 a y (by omega)) (fun a y w1 w2 w3 => t3 a y w3 (by omega))⟩, ?_, ?_, fun a y w1 w2 w3 w4 w5 => by rw [t4 a y w5]; exact gA a y w1 w2 w3, fun a y w1 w2 w3 w4 w5 w6 w7 w8 w9 w10 w11 => by rw [t3 a y (by omega) w8]; exact gM a y w1 w2 w3 w4 w5 w6 w9 w10 w11⟩
    · rw [mset_s, mset_s, gA _ _ (by omega) (by omega) (by omega), gM _ _ (by omega) (by omega) (by omega) (by omega) (by omega) (by omega) (by omega) (by omega) (by omega), h292]
    · obtain ⟨u1, u2⟩ := gHd
      refine ⟨fun s q1 q2 q q3 => ?_, fun y hy hn => ?_⟩
      · obtain ⟨od, o1, o2⟩ := u1 s q1 q2 q q3
        exact ⟨od, by rw [t3 _ _ (by omega) (by omega)]; exact o1, o2⟩
      · rw [t3 _ _ (by omega) (by omega)]; exact u2 y hy hn
  | true =>
    obtain ⟨y1, y2, y3, y4⟩ := z5 hr
    rw [bI_t, if_neg (show ¬ (1 : Int32) = 0 by decide)]
    have t3 : ∀ a y, ¬ (821 ≤ a ∧ a ≤ 828) → M3 a y = M2 a y := fun a y w => y3 a y w (by omega)
    have t4 : ∀ a y, ¬ (20 ≤ a ∧ a ≤ 60) → A3 a y = A2 a y := fun a y w1 => y2 a y (by omega) (by omega) (by omega)
    refine ⟨_, _, rfl, rfl, by rw [t4 _ _ (by omega), s4 _ _ (by omega) (by omega)]; exact A77, by rw [t3 _ _ (by omega)]; exact r2, RCd_fr hC2 (fun a y w1 w2 => t4 a y (by omega)) (fun a y w => t3 a y (by omega)), ⟨_, _, _, _, _, _, y1⟩, ?_, ?_, fun a y w1 w2 w3 w4 w5 => by rw [t4 a y w4]; exact gA a y w1 w2 w3, fun a y w1 w2 w3 w4 w5 w6 w7 w8 w9 w10 w11 => by rw [t3 a y (by omega)]; exact gM a y w1 w2 w3 w4 w5 w6 w9 w10 w11⟩
    · rw [t4 _ _ (by omega), t3 _ _ (by omega), gA _ _ (by omega) (by omega) (by omega), gM _ _ (by omega) (by omega) (by omega) (by omega) (by omega) (by omega) (by omega) (by omega) (by omega), h292]
    · obtain ⟨u1, u2⟩ := gHd
      refine ⟨fun s q1 q2 q q3 => ?_, fun y hy hn => ?_⟩
      · obtain ⟨od, o1, o2⟩ := u1 s q1 q2 q q3
        exact ⟨od, by rw [t3 _ _ (by omega)]; exact o1, o2⟩
      · rw [t3 _ _ (by omega)]; exact u2 y hy hn
