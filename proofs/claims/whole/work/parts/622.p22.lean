/-! JOINING: the car at its start -/
/-- what the class has cleared, and what never changes -/
def J0 (A M : mwM) (Sb : Nat → Nat) (o : Nat → Nat → Nat) : Prop := RCd A M Sb ∧ OcA A ∧ M 870 1 = sI 0 ∧ (A 3 16 = 0 ∧ A 3 17 = -1 ∧ A 3 18 = 0) ∧ (∀ c, c < 6 → A 284 c = 0) ∧ (∀ k, k < 5 → A 292 k = 0) ∧ (A 5 4 = 0 ∧ A 5 6 = 1 ∧ ∀ c, c < 6 → A 18 c = -1) ∧ TfC A tn0 tb0 o ∧ A 275 8 = 0 ∧ ∀ c, c < 6 → A 276 c = 1 ∧ A 277 c = 0 ∧ A 278 c = 0 ∧ A 280 c = 0
theorem st_join {fu n C T X S K R W : Nat} {A M : mwM} {Lc Lm : mwL} {nl : List Nm} {ow ct Sb : Nat → Nat} {o sg : Nat → Nat → Nat} {tu : Nat → Bool} {ky rd wt : Nat → Nat → Nat} (F0 F1 : mwM → mwL → Option (Int32 × mwM × mwL)) (hfu : 150000 ≤ fu) (hP : PR A M Lc Lm n C T X S K R W nl ow ct sg tu ky rd wt) (hZ : JZ A M) (hJ : J0 A M Sb o) (hC0 : 0 < C) (hno : ∀ s, s < S → ¬ TLg (sg 0) (fun s => kyf (ky 0) (ky 1) (ky 2) (ow (ct (sg 2 s))) (sg 1 s) K 0) s) : ∃ (A' M' : mwM) (Lm' : mwL) (F : Nat) (d g : Nat → Nat → Nat) (own bd : Nat → Nat) (si : Nat → Bool) (p : PB) (e ec tc fl : Nat → Nat), DX1_join fu A Lc = some (A', Lc) ∧ mb3 (DX19_join fu M Lm) (fun r23 M21 L22 => (if r23 = 0 then F0 M21 L22 else mb3 (DX19_build fu M21 L22) (fun r27 M25 L26 => (if r27 = 0 then F0 M25 L26 else F1 M25 L26)))) = F1 M' Lm' ∧ CAR A' M' Lc Lm' C S F W R X T 0 0 d tu g own Sb bd si p o e ec tc fl ∧ (∀ q, q < 12 → ∀ y, y ≤ 40 → M' (941 + 53 * q + 8) y = 0) ∧ PrB M' Lc Lm' ∧ (∀ a y, ¬ (20 ≤ a ∧ a ≤ 60) → ¬ (70 ≤ a ∧ a ≤ 80) → ¬ (86 ≤ a ∧ a ≤ 94) → ¬ (101 ≤ a ∧ a ≤ 138) → ¬ (a = 61 ∧ (y = 11 ∨ y = 13 ∨ y = 14)) → ¬ (293 ≤ a ∧ (a - 293) % 36 = 25) → A' a y = A a y) ∧ (∀ a y, a < 766 → ¬ (a = 732 ∧ (y = 67 ∨ y = 11 ∨ y = 12 ∨ 83 ≤ y)) → M' a y = M a y) ∧ ∀ c, si c = false := by
  obtain ⟨jR, jO, j870, ⟨j16, j17, j18⟩, j284, j292, ⟨j54, j56, jc⟩, jT, j275, jQ⟩ := hJ
  obtain ⟨A1, M1, F, d, k1, k2, kF, kH, kD, kS, k10, k86, d0, d1, d2, d4, d5, k8, fA1, fM1⟩ := st_packs (fu := fu) (by omega) hP hZ hno
  obtain ⟨⟨c1, c2, c3⟩, pT, pX, pB, ⟨s1, s2, s3, s4⟩, pK, pR, pW, pN, nB⟩ := id hP
  obtain ⟨t1, t2, t3, t4, t5⟩ := id pT
  obtain ⟨x1, x2, x3, x4, x5⟩ := id pX
  -- the reference: cores, bus, transfer
  have m19 : M1 732 19 = sI C := by rw [fM1 _ _ (by omega) (by omega) (by omega) (by omega)]; exact c2
  obtain ⟨M2, L2, a1, a2, a3, a4, a5, a6, a7⟩ := wq_ex (m_anew15 (fu := fu) (M := M1) (L := Lm) (C := C) (by omega))
  dsimp only at a2 a3 a4 a5 a6 a7
  have A1_13 : A1 3 13 = sI C := by rw [fA1 _ _ (by omega) (by omega) (by omega)]; exact c1
  obtain ⟨A3, M3, b1, b2, bR, b4, fA3, fM3⟩ := st_begin (fu := fu) (N := C + 1) (ow := fun _ => 0) (id := fun _ => 0) (oc := fun _ _ => 0) (dn := fun _ => 0) (A := A1) (M := M2) (Lc := Lc) (Lm := L2) hfu (by omega) (by omega) (fun n hn => by
    obtain ⟨q, hq⟩ := jO n hn
    exact ⟨q, OcR_f hq (fun y => fA1 _ _ (by omega) (by omega) (by omega))⟩)
  have m870 : M3 870 1 = sI 0 := by rw [fM3 _ _ (by omega), a6 _ _ (by omega), fM1 _ _ (by omega) (by omega) (by omega) (by omega)]; exact j870
  obtain ⟨M4, L4, g1, g2, g3, g4⟩ := wq_ex (m_anew17 (fu := fu) (M := M3) (L := L2) (o := o) (by omega) m870)
  dsimp only at g2 g3 g4
  have FM4 : ∀ a y, (a < 787 ∨ 853 < a) → ¬ (869 ≤ a ∧ a ≤ 901) → M4 a y = M1 a y := fun a y u1 u2 => by rw [g3 a y u2, fM3 a y (by omega), a6 a y (by omega)]
  have FL4 : ∀ a y, (a < 787 ∨ 820 < a) → a ≠ 869 → L4 a y = Lm a y := fun a y u1 u2 => by rw [g4 a y u2, a7 a y u1]
  -- the class: keys and domains
  have FA3 : ∀ a y, ¬ (20 ≤ a ∧ a ≤ 60) → ¬ (70 ≤ a ∧ a ≤ 80) → ¬ (86 ≤ a ∧ a ≤ 94) → ¬ (a = 61 ∧ (y = 11 ∨ y = 13 ∨ y = 14)) → A3 a y = A a y := fun a y u1 u2 u3 u4 => by rw [fA3 a y u1, fA1 a y u2 u3 u4]
  have R3 : RCd A3 M4 Sb := RCd_fr jR (fun a y u1 u2 => FA3 a y (by omega) (by omega) (by omega) (by omega)) (fun a y u => by rw [FM4 a y (by omega) (by omega), fM1 a y (by omega) (by omega) (by omega) (by omega)])
  obtain ⟨A5, L5, e1, e2, e3, e4, e5, e6⟩ := wq_ex (c_learn3 (fu := fu) (key := 16) (L := Lc) (by omega) (by omega) R3)
  dsimp only at e2 e3 e4 e5 e6
  subst e2
  have F40 := kF.2.2.2.2.2.1
  have A3_11 : A5 61 11 = sI F := by rw [e6 _ _ (by omega), fA3 _ _ (by omega)]; exact kF.2.2.2.1
  have hlo : ∀ f, f < F → A5 76 f = sI (d 12 f) ∧ d 12 f ≤ 16 := fun f hf => by
    rw [e6 _ _ (by omega), fA3 _ _ (by omega)]
    exact ⟨(kF.2.2.2.2.2.2.1 f hf).1.2.2.1, FrS_lo kF hf⟩
  have cl : wq (fX1_join_h35 fu fu (0, A5, L5)) (fun z => z.2 = L5 ∧ RCd z.1 M4 Sb ∧ KnC z.1 Sb 16 ∧ (∀ f, f < F → d 12 f ≠ 0 → KnC z.1 Sb (d 12 f)) ∧ (∀ x, x < X → ∀ c, Cv c → TrC A (293 + 36 * x) (c 0 0) (c 1) (c 2) (c 3) → EdC A (293 + 36 * x) (c 0 1) (c 4) (c 5) (c 6) (c 7) → DoC (293 + 36 * x) z.1 c) ∧ ∀ a y, ¬ (101 ≤ a ∧ a ≤ 138) → ¬ (293 ≤ a ∧ (a - 293) % 36 = 25) → z.1 a y = A3 a y) := c_learnL (A := A5) (M := M4) (S := Sb) (lo := d 12) (by omega) F40 A3_11 hlo e3 e4 (fun A6 r1 r2 r3 r4 => by
    have fr : ∀ a y, 293 ≤ a → A6 a y = A a y := fun a y u => by rw [r4 a y (by omega), e6 a y (by omega), FA3 a y (by omega) (by omega) (by omega) (by omega)]
    have tr : ∀ (x : Nat) (c : Nat → Nat → Nat), TrC A (293 + 36 * x) (c 0 0) (c 1) (c 2) (c 3) → TrC A6 (293 + 36 * x) (c 0 0) (c 1) (c 2) (c 3) := fun x c h => ⟨by rw [fr _ _ (by omega)]; exact h.1, fun s hs => by
      rw [fr _ _ (by omega), fr _ _ (by omega), fr _ _ (by omega)]
      exact h.2 s hs⟩
    have ed : ∀ (x : Nat) (c : Nat → Nat → Nat), EdC A (293 + 36 * x) (c 0 1) (c 4) (c 5) (c 6) (c 7) → EdC A6 (293 + 36 * x) (c 0 1) (c 4) (c 5) (c 6) (c 7) := fun x c h => ⟨by rw [fr _ _ (by omega)]; exact h.1, fun e e1 e2 => by
      rw [fr _ _ (by omega), fr _ _ (by omega), fr _ _ (by omega), fr _ _ (by omega)]
      exact h.2 e e1 e2⟩
    obtain ⟨A7, L7, q1, q2, q3, q4⟩ := wq_ex (c_domL (fu := fu) (A := A6) (X := X) (L := L5) (by omega) x3 (by rw [r4 _ _ (by omega), e6 _ _ (by omega), FA3 _ _ (by omega) (by omega) (by omega) (by omega)]; exact x1) (fun x hx => by
      obtain ⟨_, _, _, _, _, c, va, D, xx, v6, v7, _⟩ := (x4 x hx).2.2.2
      exact ⟨c, v6, tr x c v7.1, ed x c v7.2.1⟩))
    dsimp only at q2 q3 q4
    exact ⟨_, q1, q2, RCd_fr r1 (fun a y u1 u2 => q4 a y (by omega)) (fun _ _ _ => rfl), KnC_f r2 (by omega) (fun a y u1 u2 => q4 a y (by omega)), fun f hf h0 => KnC_f (r3 f hf h0) (hlo f hf).2 (fun a y u1 u2 => q4 a y (by omega)), fun x hx c h1 h2 h3 => q3 x hx c h1 (tr x c h2) (ed x c h3), fun a y u1 u2 => by dsimp only; rw [q4 a y u2, r4 a y u1, e6 a y u1]⟩)
  obtain ⟨A7, L7, f1, f2, f3, f4, f5, f6, f7⟩ := wq_ex cl
  dsimp only at f2 f3 f4 f5 f6 f7
  subst f2
  have FA1 : ∀ a y, ¬ (20 ≤ a ∧ a ≤ 60) → ¬ (101 ≤ a ∧ a ≤ 138) → ¬ (293 ≤ a ∧ (a - 293) % 36 = 25) → A7 a y = A1 a y := fun a y u1 u2 u3 => by rw [f7 a y u2 u3, fA3 a y u1]
  have FA : ∀ a y, ¬ (20 ≤ a ∧ a ≤ 60) → ¬ (70 ≤ a ∧ a ≤ 80) → ¬ (86 ≤ a ∧ a ≤ 94) → ¬ (101 ≤ a ∧ a ≤ 138) → ¬ (a = 61 ∧ (y = 11 ∨ y = 13 ∨ y = 14)) → ¬ (293 ≤ a ∧ (a - 293) % 36 = 25) → A7 a y = A a y := fun a y u1 u2 u3 u4 u5 u6 => by rw [FA1 a y u1 u4 u6, fA1 a y u2 u3 u5]
  have FAs : ∀ a y, (a < 20 ∨ (139 ≤ a ∧ a < 293)) → A7 a y = A a y := fun a y u => FA a y (by omega) (by omega) (by omega) (by omega) (by omega) (by omega)
  -- the reference: tasks
  have ht : ∀ j, j < T → nn (A 7 j) < 256 ∧ ow j < C ∧ 500 ≤ nn (A 9 j) ∧ nn (A 9 j) ≤ 20000 ∧ nn (A 11 j) < nn (A 9 j) ∧ 1 ≤ nn (A 10 j) ∧ nn (A 10 j) ≤ 1000 ∧ A 7 j = sI (nn (A 7 j)) ∧ M 743 j = sI (nn (A 7 j)) ∧ A 9 j = sI (nn (A 9 j)) ∧ M 744 j = sI (nn (A 9 j)) ∧ A 11 j = sI (nn (A 11 j)) ∧ M 745 j = sI (nn (A 11 j)) ∧ A 10 j = sI (nn (A 10 j)) ∧ M 746 j = sI (nn (A 10 j)) := fun j hj => by
    obtain ⟨_, _, q3, ⟨pr, pe, ou, wk, p1, p2, p3, p4, p5, p6, p7, p8, p9, p10, p11, p12, p13, p14⟩, _⟩ := t4 j hj
    rw [p1, p4, p8, p11, nn_s (show pr < 2000000000 by omega), nn_s (show pe < 2000000000 by omega), nn_s (show ou < 2000000000 by omega), nn_s (show wk < 2000000000 by omega)]
    exact ⟨by omega, q3, p6, p7, p10, p13, p14, rfl, p2, rfl, p5, rfl, p9, rfl, p12⟩
  have M4s : ∀ a y, a < 766 → ¬ (a = 732 ∧ (y = 67 ∨ y = 11 ∨ y = 12)) → M4 a y = M a y := fun a y u1 u2 => by rw [FM4 a y (by omega) (by omega), fM1 a y (by omega) (by omega) u2 (by omega)]
  have ts : wq (fX19_build_h36 fu fu (0, M4, L4)) (fun z => z.1 = 1 ∧ RCo A7 z.2.1 z.2.2 T C 0 ∧ b4M z.2.1 ∧ (∀ k, k < 240 → z.2.2 786 k = 0) ∧ (∀ a y, a ≠ 786 → (a < 787 ∨ 820 < a) → z.2.2 a y = L4 a y) ∧ (z.2.1 732 83 = 0 ∧ z.2.1 732 88 = 0 ∧ z.2.1 732 91 = 0 ∧ z.2.1 732 94 = 0 ∧ z.2.1 732 95 = 0 ∧ z.2.1 732 96 = 0 ∧ z.2.1 732 97 = -1 ∧ z.2.1 732 98 = 0 ∧ z.2.1 732 108 = 0) ∧ ∀ a y, a ≠ 923 → a ≠ 924 → ¬ (934 ≤ a ∧ a ≤ 939) → ¬ (a = 732 ∧ 83 ≤ y) → (a < 787 ∨ 820 < a) → z.2.1 a y = M4 a y) := m_tasks (rk := fun j => nn (A 7 j)) (co := ow) (pe := fun j => nn (A 9 j)) (off := fun j => nn (A 11 j)) (mi := fun j => nn (A 10 j)) (C := C) (T := T) (by omega) t3 c3 (by rw [M4s _ _ (by omega) (by omega)]; exact t2) (fun j hj => by
      obtain ⟨q1, q2, q3, q4, q5, q6, q7, q8, q9, q10, q11, q12, q13, q14, q15⟩ := ht j hj
      rw [M4s _ _ (by omega) (by omega), M4s _ _ (by omega) (by omega), M4s _ _ (by omega) (by omega), M4s _ _ (by omega) (by omega), M4s _ _ (by omega) (by omega)]
      exact ⟨q9, (t4 j hj).2.1, q11, q13, q15, q1, q2, q3, q4, q5, q6, q7⟩) (by
      obtain ⟨z1, z2, z3, z4, z5, z6, z7, z8, z9⟩ := a2
      have m4 : ∀ a y, 787 ≤ a → a ≤ 820 → M4 a y = M2 a y := fun a y u1 u2 => by rw [g3 a y (by omega), fM3 a y (by omega)]
      have l4 : ∀ a y, 787 ≤ a → a ≤ 820 → L4 a y = L2 a y := fun a y u1 u2 => g4 a y (by omega)
      refine ⟨by rw [m4 _ _ (by omega) (by omega)]; exact z1, by rw [l4 _ _ (by omega) (by omega)]; exact z2, by rw [l4 _ _ (by omega) (by omega)]; exact z3, by rw [m4 _ _ (by omega) (by omega)]; exact z4, by rw [m4 _ _ (by omega) (by omega)]; exact z5, by rw [m4 _ _ (by omega) (by omega)]; exact z6, fun r r1 r2 => by rw [m4 _ _ (by omega) (by omega)]; exact z7 r r1 r2, fun r r1 r2 => by rw [m4 _ _ (by omega) (by omega)]; exact z8 r r1 r2, fun t ht => ?_⟩
      rw [m4 _ _ (by omega) (by omega), m4 _ _ (by omega) (by omega), m4 _ _ (by omega) (by omega), m4 _ _ (by omega) (by omega), l4 _ _ (by omega) (by omega)]
      exact z9 t ht) (by rw [g3 _ _ (by omega), fM3 _ _ (by omega)]; exact a3) (by rw [g3 _ _ (by omega), fM3 _ _ (by omega)]; exact a4) (by rw [g3 _ _ (by omega), fM3 _ _ (by omega)]; exact a5) (fun M' L' r z1 z2 z3 z4 z5 z6 z7 z8 => by
      obtain ⟨⟨rr, M8, L8⟩, y1, y2, y3, y4, y5, y6, y7⟩ := m_btail (fu := fu) (T := T) (M := M') (L := L') (r := r) (by omega) t3 (by rw [z7 _ _ (by omega), M4s _ _ (by omega) (by omega)]; exact t2)
      dsimp only at y2 y3 y4 y5 y6 y7
      have rc : RCo A7 M' L' T C 0 := RCo_0 (rk := fun j => nn (A 7 j)) (co := ow) (pe := fun j => nn (A 9 j)) (off := fun j => nn (A 11 j)) (mi := fun j => nn (A 10 j)) t3 c3 ⟨by rw [FAs _ _ (by omega)]; exact t1, by rw [FAs _ _ (by omega)]; exact j54, by rw [FAs _ _ (by omega)]; exact j56, fun c hc => by rw [FAs _ _ (by omega)]; exact jc c hc, fun j hj => by
        obtain ⟨q1, q2, q3, q4, q5, q6, q7, q8, q9, q10, q11, q12, q13, q14, q15⟩ := ht j hj
        obtain ⟨w1, _, _, _, w5, _⟩ := t4 j hj
        exact ⟨by rw [FAs _ _ (by omega)]; exact q8, by rw [FAs _ _ (by omega)]; exact w1, by rw [FAs _ _ (by omega)]; exact q10, by rw [FAs _ _ (by omega)]; exact q14, by rw [FAs _ _ (by omega)]; exact q12, by rw [FAs _ _ (by omega)]; exact w5 12 (by omega) (by omega), by rw [FAs _ _ (by omega)]; exact w5 13 (by omega) (by omega), by rw [FAs _ _ (by omega)]; exact w5 14 (by omega) (by omega), by rw [FAs _ _ (by omega)]; exact w5 15 (by omega) (by omega), by rw [FAs _ _ (by omega)]; exact w5 16 (by omega) (by omega), by rw [FAs _ _ (by omega)]; exact w5 17 (by omega) (by omega)⟩⟩ (fun j hj => by
        obtain ⟨q1, q2, q3, q4, q5, q6, q7, _⟩ := ht j hj
        exact ⟨q1, q2, q3, q4, q5, q6, q7⟩) z1 z2 z3 z4 z5 z6
      exact ⟨_, y1, y2, RCo_w rc (fun _ _ _ _ => rfl) (fun a y u1 u2 => y7 a y (by omega) (by omega) (by omega) (by omega)) (fun a y u1 u2 => y5 a y (by omega)), y3, y4, fun a y u1 u2 => by dsimp only; rw [y5 a y u1, z8 a y u2], y6, fun a y u1 u2 u3 u4 u5 => by dsimp only; rw [y7 a y u1 u2 u3 u4, z7 a y u5]⟩)
  obtain ⟨rr, M8, L8, h1, h2, hCo, ⟨n24, n39, n6⟩, h786, hL8, ⟨n83, n88, n91, n94, n95, n96, n97, n98, n108⟩, hM8⟩ := wq_e3 ts
  dsimp only at h2 hCo n24 n39 n6 h786 hL8 n83 n88 n91 n94 n95 n96 n97 n98 n108 hM8
  subst h2
  have FM : ∀ a y, (a < 787 ∨ 853 < a) → ¬ (869 ≤ a ∧ a ≤ 901) → a ≠ 923 → a ≠ 924 → ¬ (934 ≤ a ∧ a ≤ 939) → ¬ (a = 732 ∧ 83 ≤ y) → M8 a y = M1 a y := fun a y u1 u2 u3 u4 u5 u6 => by rw [hM8 a y u3 u4 u5 u6 (by omega), FM4 a y u1 u2]
  have FM0 : ∀ a y, (a < 787 ∨ 853 < a) → ¬ (869 ≤ a ∧ a ≤ 901) → a ≠ 923 → a ≠ 924 → ¬ (934 ≤ a ∧ a ≤ 939) → ¬ (a = 732 ∧ 83 ≤ y) → (a < 941 ∨ 23 ≤ (a - 941) % 53 ∨ 1577 ≤ a) → ¬ (766 ≤ a ∧ a ≤ 768) → ¬ (a = 732 ∧ (y = 67 ∨ y = 11 ∨ y = 12)) → ¬ (779 ≤ a ∧ a ≤ 785) → M8 a y = M a y := fun a y u1 u2 u3 u4 u5 u6 u7 u8 u9 u10 => by rw [FM a y u1 u2 u3 u4 u5 u6, fM1 a y u7 u8 u9 u10]
  have FMs : ∀ a y, a < 766 → ¬ (a = 732 ∧ (y = 67 ∨ y = 11 ∨ y = 12 ∨ 83 ≤ y)) → M8 a y = M a y := fun a y u1 u2 => FM0 a y (by omega) (by omega) (by omega) (by omega) (by omega) (by omega) (by omega) (by omega) (by omega) (by omega)
  have FMc : ∀ a y, 964 ≤ a → (a - 964) % 53 ≤ 29 → M8 a y = M a y := fun a y u1 u2 => FM0 a y (by omega) (by omega) (by omega) (by omega) (by omega) (by omega) (by omega) (by omega) (by omega) (by omega)
  have FL : ∀ a y, a ≠ 786 → (a < 787 ∨ 820 < a) → a ≠ 869 → L8 a y = Lm a y := fun a y u1 u2 u3 => by rw [hL8 a y u1 u2, FL4 a y u2 u3]
  have FL' : ∀ a, a ≠ 786 → (a < 787 ∨ 820 < a) → a ≠ 869 → L8 a = Lm a := fun a u1 u2 u3 => by
    funext y
    exact FL a y u1 u2 u3
  refine ⟨A7, M8, L8, F, d, fun i => if i < 4 then rd i else wt (i - 4), fun x => ow (ct x), fun _ => 0, fun _ => false, (tn0, tb0), fun _ => 0, z0, z0, z0, ?_, ?_, ?_, fun q hq y hy => ?_, PrB_f pB (fun a u1 u2 => FMc a 0 u1 (by omega)) (fun _ _ _ _ _ => rfl) (fun a y u1 u2 u3 => FL a y (by omega) (by omega) (by omega)), FA, FMs, fun _ => rfl⟩
  · unfold DX1_join
    rw [c1, k1, mb2_s, A1_13, sI_1, b1, mb2_s, show (16 : Int32) = sI 16 from rfl, e1, mb2_s, f1]
  · rw [k2, mb3_s, if_neg (show ¬ (1 : Int32) = 0 by decide)]
    unfold DX19_build
    rw [m19, a1, mb2_s, a6 732 19 (by omega), m19, sI_1, b2, mb2_s, g1, mb2_s, h1, mb3_s, if_neg (show ¬ (1 : Int32) = 0 by decide)]
  rotate_left
  · rw [FM _ _ (by omega) (by omega) (by omega) (by omega) (by omega) (by omega)]
    exact k8 q hq y hy
  obtain ⟨w1, w2, w3, w4⟩ := pW
  refine ⟨⟨FrS_f kF (fun a y u => FA1 a y (by omega) (by omega) (by omega)) (fun a y u => FM a y (by omega) (by omega) (by omega) (by omega) (by omega) (by omega)), ⟨x3, by rw [FMs _ _ (by omega) (by omega)]; exact x2, fun x hx => ?_, fun x u1 u2 => by rw [FA _ _ (by omega) (by omega) (by omega) (by omega) (by omega) (by omega)]; exact x5 x u1 u2⟩, RdR_f pR (fun a y u => FAs a y (by omega)) (fun a y u => FM0 a y (by omega) (by omega) (by omega) (by omega) (by omega) (by omega) (by omega) (by omega) (by omega) (by omega)) (fun _ => rfl) (fun y => FL _ y (by omega) (by omega) (by omega)), fun x hx => ?_, WtR_f w1 (fun a y u => FAs a y (by omega)) (fun a y u => FM0 a y (by omega) (by omega) (by omega) (by omega) (by omega) (by omega) (by omega) (by omega) (by omega) (by omega)) (fun y => FL _ y (by omega) (by omega) (by omega)), RTr_fr w2 (fun a y u1 u2 => FAs a y (by omega)) (fun a y u1 u2 _ => FM0 a y (by omega) (by omega) (by omega) (by omega) (by omega) (by omega) (by omega) (by omega) (by omega) (by omega)), RCd_fr f3 (fun _ _ _ _ => rfl) (fun a y u => hM8 a y (by omega) (by omega) (by omega) (by omega) (by omega)), f5, fun f hf c hc => ⟨0, Nat.zero_le _, by rw [FA1 _ _ (by omega) (by omega) (by omega)]; exact k86 f hf c hc, h786 _ (by omega)⟩, by rw [FAs _ _ (by omega), j292 1 (by omega), n39 1 (by omega)], by rw [FAs _ _ (by omega), j292 2 (by omega), n39 2 (by omega)], by rw [FAs _ _ (by omega)]; exact j16, n83, by omega⟩, ⟨V_00, TfC_w jT (by decide) (fun a y u1 u2 => FAs a y (by omega)), TfM_fr g2 (fun a y u1 u2 u3 u4 => hM8 a y (by omega) (by omega) (by omega) (by omega) (by omega)) (fun a y u1 u2 => hL8 a y (by omega) (by omega)), ⟨n88, fun m u1 u2 => absurd u2 (by show ¬ m ≤ 0; omega), n95, ⟨0, n96, by omega, rfl⟩, n94, n91, fun k hk => absurd hk (Nat.not_lt_zero k), by decide⟩, ⟨fun m u1 u2 => absurd u2 (by show ¬ m ≤ 0; omega), fun r hr h1 => absurd h1 (by show ¬ (0 : Nat) = 1; omega)⟩, fun m u1 u2 => absurd u2 (by show ¬ m ≤ 0; omega), by rw [FAs _ _ (by omega), j17, n97], by rw [FAs _ _ (by omega), j292 3 (by omega), n39 3 (by omega)], Or.inl ⟨by rw [FAs _ _ (by omega)]; exact j18, n98⟩, ⟨by rw [FAs _ _ (by omega), j275, n108], fun c hc => ?_⟩, f4, fun f u1 u2 => absurd u2 (by show ¬ f < 0; omega)⟩, rfl, BusE_fr ⟨0, _, _, _, _, true, bR⟩ (fun a y u1 u2 => f7 a y (by omega) (by omega)) (fun a y u1 u2 u3 => by rw [hM8 a y (by omega) (by omega) (by omega) (by omega) (by omega), g3 a y (by omega)]), ⟨fun f hf => HdF_f (kH f hf) (fun a y u1 u2 => FM a y (by omega) (by omega) (by omega) (by omega) (by omega) (by omega)), fun f hf => ?_, ?_, k10, fun s hs => ?_, fun c hc => ⟨by rw [FAs _ _ (by omega)]; exact j284 c hc, (n6 c hc).1⟩, fun w hw => ?_, by rw [FMs _ _ (by omega) (by omega)]; exact c2, by rw [FAs _ _ (by omega)]; exact c1, c3, by rw [FMs _ _ (by omega) (by omega)]; exact t2, fun i hi => ?_, fun i hi => ?_⟩, hCo, fun x hx => ?_, fun i hi => ?_, fun k hk => n24 k (by omega), by rw [FAs _ _ (by omega), j292 0 (by omega), n39 0 (by omega)], by rw [FAs _ _ (by omega), j292 4 (by omega), n39 4 (by omega)], Nat.zero_le _, fun c hc => Nat.zero_le _⟩
  · obtain ⟨y1, y2, y3, _⟩ := x4 x hx
    have := (t4 _ y2).2.2.1
    exact ⟨by dsimp only; omega, by rw [FA _ _ (by omega) (by omega) (by omega) (by omega) (by omega) (by omega)]; exact y3, ct x, by omega, by rw [FMs _ _ (by omega) (by omega)]; exact y1, by rw [FMs _ _ (by omega) (by omega)]; exact (t4 _ y2).2.1⟩
  · obtain ⟨v1, v2, v3, v4, v5, c, va, D, xx, v6, v7, v8, _⟩ := (x4 x hx).2.2.2
    refine ⟨0, by omega, by rw [FA _ _ (by omega) (by omega) (by omega) (by omega) (by omega) (by omega)]; exact v1, by rw [FMs _ _ (by omega) (by omega)]; exact v4, fun i hi => absurd hi (by omega), ?_⟩
    have r3 := v7.2.2.2.1.2.2.2.2.2
    have r2 := v8.2.2.2.1.2.2.2.2.2.1
    rw [r3, FL' _ (by omega) (by omega) (by omega), r2]
  · obtain ⟨y1, y2, y3, y4⟩ := jQ c hc
    obtain ⟨_, m4, m5, m6, _, m8⟩ := n6 c hc
    exact ⟨1, 0, false, false, by omega, by omega, by omega, by rw [FAs _ _ (by omega)]; exact y1, m4, by rw [FAs _ _ (by omega)]; exact y2, m5, by rw [FAs _ _ (by omega)]; exact y3, m6, fun z => absurd z (by decide), by rw [FAs _ _ (by omega)]; exact y4, m8⟩
  · obtain ⟨⟨nn', y1, y2, y3⟩, y4⟩ := kD f hf
    exact ⟨⟨nn', by rw [FA1 _ _ (by omega) (by omega) (by omega)]; exact y1, by rw [FM _ _ (by omega) (by omega) (by omega) (by omega) (by omega) (by omega)]; exact y2, y3⟩, by rw [FA1 _ _ (by omega) (by omega) (by omega)]; exact y4⟩
  · obtain ⟨m, y1, y2⟩ := kS
    exact ⟨m, by rw [FA1 _ _ (by omega) (by omega) (by omega)]; exact y1, y2⟩
  · rw [d4]
    exact (s4 s hs).2.2.1.2.2
  · rw [FAs _ _ (by omega), d1]
    exact w3 w hw
  · rw [FAs _ _ (by omega), FMs _ _ (by omega) (by omega)]
    exact (t4 i hi).2.2.2.2.2.2
  · obtain ⟨q1, q2, q3, q4, q5, q6, q7, q8, q9, q10, q11, q12, q13, q14, q15⟩ := ht i hi
    rw [FAs _ _ (by omega), FMs _ _ (by omega) (by omega), q14, q15]
  · obtain ⟨v1, v2, v3, v4, v5, c, va, D, xx, v6, v7, v8, v9, v10, v11, v12, v13⟩ := (x4 x hx).2.2.2
    refine ⟨va, (((c, b00, D), xx), 0), 0, ⟨v6, fun s hs => (by show c 14 s ≤ 20000; rw [(v13 s hs).2]; omega), fun z => absurd z (by show ¬ false = true; decide), fun _ => ⟨rfl, fun s hs => (v13 s hs).1⟩⟩, ⟨ReC_f v7 (fun a y u1 u2 _ _ u5 _ => FA a y (by omega) (by omega) (by omega) (by omega) (by omega) (by omega)) rfl, f6 x hx c v6 v7.1 v7.2.1⟩, ReM_f v8 (fun a y u1 u2 _ => FMc a y (by omega) (by omega)) (fun a u1 u2 => FL' a (by omega) (by omega) (by omega)), by rw [FA _ _ (by omega) (by omega) (by omega) (by omega) (by omega) (by omega)]; exact v2, by rw [FMs _ _ (by omega) (by omega)]; exact v3, by rw [FL _ _ (by omega) (by omega) (by omega)]; exact v5, by omega⟩
  · rw [FAs _ _ (by omega), FMs _ _ (by omega) (by omega), (t4 i hi).2.2.2.2.2.1]
    exact (t4 i hi).2.2.2.2.1 17 (by omega) (by omega)
/-! SYSTEM: the class clears -/
theorem c_clr7 {fu : Nat} {A : mwM} {L : mwL} (hf : 300 ≤ fu) : wq (DX7_clear fu A L) (fun z => z.2 = L ∧ z.1 275 8 = 0 ∧ (∀ c, c < 6 → z.1 276 c = 1 ∧ z.1 277 c = 0 ∧ z.1 278 c = 0 ∧ z.1 280 c = 0) ∧ ∀ a y, ¬ (275 ≤ a ∧ a ≤ 280) → z.1 a y = A a y) := by
  unfold DX7_clear
  rw [mlet_e]
  refine wq_for (body := fun r s => fX7_clear_i7 fu r s.1 s.2.1 s.2.2) (fun i (a : mwM × mwL) => (sI i, a.1, a.2)) (fun i a => a.2 = L ∧ a.1 275 8 = 0 ∧ (∀ c, c < i → a.1 276 c = 1 ∧ a.1 277 c = 0 ∧ a.1 278 c = 0 ∧ a.1 280 c = 0) ∧ ∀ b y, ¬ (275 ≤ b ∧ b ≤ 280) → a.1 b y = A b y) 6 ?_ ?_ 6 0 (mset A 275 8 0, L) fu (by omega) (by omega) ⟨rfl, (by dsimp only; rw [mset_s]), fun c h => by omega, fun b y u => (by dsimp only; rw [mset_n (by omega)])⟩
  · rintro i ⟨a, l⟩ r hi ⟨p1, p0, p2, p3⟩ ih
    dsimp only at p1 p0 p2 p3
    show wq (fX7_clear_i7 fu r (sI i) a l) _
    unfold fX7_clear_i7
    rw [if_neg (show ¬ (6 : Int32) ≤ sI i by rw [show (6 : Int32) = sI 6 from rfl, sI_le (by omega) (by omega)]; omega), nar_f]
    simp (disch := omega) only [mck_s, sI_nn, mlet_e, sI_1]
    refine ih (mset (mset (mset (mset a 276 i 1) 277 i 0) 278 i 0) 280 i 0, l) ⟨p1, by dsimp only; rw [mset_n (by omega), mset_n (by omega), mset_n (by omega), mset_n (by omega)]; exact p0, fun c hc => ?_, fun b y u1 => ?_⟩
    · dsimp only
      by_cases e : c = i
      · subst e
        simp (disch := omega) only [mset_n, mset_s]
        exact ⟨trivial, trivial, trivial, trivial⟩
      · have := p2 c (by omega)
        simp (disch := omega) only [mset_n]
        exact this
    · dsimp only
      simp (disch := omega) only [mset_n]
      exact p3 b y u1
  · rintro ⟨a, l⟩ r ⟨p1, p0, p2, p3⟩
    dsimp only at p1 p0 p2 p3
    show wq (fX7_clear_i7 fu r (sI 6) a l) _
    unfold fX7_clear_i7
    rw [if_pos (show (6 : Int32) ≤ sI 6 by decide)]
    exact wq_some ⟨p1, p0, p2, p3⟩
theorem c_clr4 {fu : Nat} {A : mwM} {L : mwL} (hf : 300 ≤ fu) : wq (DX4_clear fu A L) (fun z => z.2 = L ∧ (z.1 5 3 = 0 ∧ z.1 5 4 = 0 ∧ z.1 5 5 = 0 ∧ z.1 5 6 = 1) ∧ (∀ c, c < 6 → z.1 18 c = -1) ∧ ∀ a y, ¬ (a = 5 ∧ 3 ≤ y ∧ y ≤ 6) → a ≠ 18 → z.1 a y = A a y) := by
  unfold DX4_clear
  simp only [mlet_e]
  refine wq_for (body := fun r s => fX4_clear_i22 fu r s.1 s.2.1 s.2.2) (fun i (a : mwM × mwL) => (sI i, a.1, a.2)) (fun i a => a.2 = L ∧ (a.1 5 3 = 0 ∧ a.1 5 4 = 0 ∧ a.1 5 5 = 0 ∧ a.1 5 6 = 1) ∧ (∀ c, c < i → a.1 18 c = -1) ∧ ∀ b y, ¬ (b = 5 ∧ 3 ≤ y ∧ y ≤ 6) → b ≠ 18 → a.1 b y = A b y) 6 ?_ ?_ 6 0 (mset (mset (mset (mset A 5 3 0) 5 4 0) 5 5 0) 5 6 1, L) fu (by omega) (by omega) ⟨rfl, ?_, fun c h => by omega, fun b y u1 u2 => by dsimp only; rw [mset_n (by omega), mset_n (by omega), mset_n (by omega), mset_n (by omega)]⟩
  · rintro i ⟨a, l⟩ r hi ⟨p1, p0, p2, p3⟩ ih
    dsimp only at p1 p0 p2 p3
    show wq (fX4_clear_i22 fu r (sI i) a l) _
    unfold fX4_clear_i22
    rw [if_neg (show ¬ (6 : Int32) ≤ sI i by rw [show (6 : Int32) = sI 6 from rfl, sI_le (by omega) (by omega)]; omega), mck_s hi (by omega), sI_nn (by omega), mlet_e, mlet_e, sI_1]
    refine ih (mset a 18 i (-1), l) ⟨p1, by dsimp only; rw [mset_n (by omega), mset_n (by omega), mset_n (by omega), mset_n (by omega)]; exact p0, fun c hc => ?_, fun b y u1 u2 => ?_⟩
    · dsimp only
      by_cases e : c = i
      · rw [e, mset_s]
      · rw [mset_n (by omega)]
        exact p2 c (by omega)
    · dsimp only
      rw [mset_n (by omega)]
      exact p3 b y u1 u2
  · rintro ⟨a, l⟩ r ⟨p1, p0, p2, p3⟩
    dsimp only at p1 p0 p2 p3
    show wq (fX4_clear_i22 fu r (sI 6) a l) _
    unfold fX4_clear_i22
    rw [if_pos (show (6 : Int32) ≤ sI 6 by decide)]
    exact wq_some ⟨p1, p0, p2, p3⟩
  · dsimp only
    simp (disch := omega) only [mset_n, mset_s]
    exact ⟨trivial, trivial, trivial, trivial⟩
/-- what is cleared -/
abbrev ClA (A : mwM) (o : Nat → Nat → Nat) : Prop := (∀ k, k < 5 → A 292 k = 0) ∧ (A 3 13 = 0 ∧ A 3 14 = 0 ∧ A 3 15 = 0 ∧ A 3 16 = 0 ∧ A 3 17 = -1 ∧ A 3 18 = 0) ∧ (A 5 3 = 0 ∧ A 5 4 = 0 ∧ A 5 5 = 0 ∧ A 5 6 = 1) ∧ (∀ c, c < 6 → A 18 c = -1) ∧ (A 61 10 = 0 ∧ A 61 11 = 0 ∧ A 61 12 = 0) ∧ (A 139 2 = 0 ∧ A 139 3 = 0 ∧ A 139 4 = 0 ∧ A 139 5 = 0) ∧ TfC A tn0 tb0 o ∧ A 275 8 = 0 ∧ ∀ c, c < 6 → A 276 c = 1 ∧ A 277 c = 0 ∧ A 278 c = 0 ∧ A 280 c = 0
abbrev ClF (A A' : mwM) : Prop := ∀ a y, ¬ (a = 3 ∧ 13 ≤ y ∧ y ≤ 18) → ¬ (a = 5 ∧ 3 ≤ y ∧ y ≤ 6) → a ≠ 18 → ¬ (a = 61 ∧ 10 ≤ y ∧ y ≤ 14) → ¬ (a = 139 ∧ 2 ≤ y ∧ y ≤ 5) → a ≠ 154 → a ≠ 264 → ¬ (275 ≤ a ∧ a ≤ 280) → a ≠ 292 → A' a y = A a y
theorem c_clr68 {fu : Nat} {A : mwM} {L : mwL} {o : Nat → Nat → Nat} (hf : 300 ≤ fu) : wq (fX1_clear_h68 fu fu (0, A, L)) (fun z => z.2 = L ∧ ClA z.1 o ∧ ClF A z.1) := by
  refine wq_for (body := fun r s => fX1_clear_i68 fu r s.1 s.2.1 s.2.2) (fun i (a : mwM × mwL) => (sI i, a.1, a.2)) (fun i a => a.2 = L ∧ (∀ c, c < i → a.1 292 c = 0) ∧ ∀ b y, b ≠ 292 → a.1 b y = A b y) 5 ?_ ?_ 5 0 (A, L) fu (by omega) (by omega) ⟨rfl, fun c h => by omega, fun _ _ _ => rfl⟩
  · rintro i ⟨a, l⟩ r hi ⟨p1, p2, p3⟩ ih
    dsimp only at p1 p2 p3
    show wq (fX1_clear_i68 fu r (sI i) a l) _
    unfold fX1_clear_i68
    rw [if_neg (show ¬ (5 : Int32) ≤ sI i by rw [show (5 : Int32) = sI 5 from rfl, sI_le (by omega) (by omega)]; omega), mck_s hi (by omega), sI_nn (by omega), mlet_e, mlet_e, sI_1]
    refine ih (mset a 292 i 0, l) ⟨p1, fun c hc => ?_, fun b y u1 => ?_⟩
    · dsimp only
      by_cases e : c = i
      · rw [e, mset_s]
      · rw [mset_n (by omega)]
        exact p2 c (by omega)
    · dsimp only
      rw [mset_n (by omega)]
      exact p3 b y u1
  · rintro ⟨a, l⟩ r ⟨p1, p2, p3⟩
    dsimp only at p1 p2 p3
    subst p1
    show wq (fX1_clear_i68 fu r (sI 5) a l) _
    unfold fX1_clear_i68
    rw [if_pos (show (5 : Int32) ≤ sI 5 by decide)]
    simp only [mlet_e]
    generalize hA1 : mset (mset (mset (mset (mset (mset a 3 13 0) 3 14 0) 3 15 0) 3 16 0) 3 17 (-1)) 3 18 0 = A1
    have h3 : A1 3 13 = 0 ∧ A1 3 14 = 0 ∧ A1 3 15 = 0 ∧ A1 3 16 = 0 ∧ A1 3 17 = -1 ∧ A1 3 18 = 0 := by
      rw [← hA1]
      simp (disch := omega) only [mset_n, mset_s]
      exact ⟨trivial, trivial, trivial, trivial, trivial, trivial⟩
    have f1 : ∀ b y, ¬ (b = 3 ∧ 13 ≤ y ∧ y ≤ 18) → A1 b y = a b y := fun b y u => by
      rw [← hA1]
      simp (disch := omega) only [mset_n]
    obtain ⟨A2, L2, e1, e2, e3, e4, e5⟩ := wq_ex (c_clr4 (fu := fu) (A := A1) (L := l) hf)
    dsimp only at e2 e3 e4 e5
    subst e2
    rw [e1, mb2_s]
    unfold DX6_clear DX10_clear
    simp only [mlet_e, mb2_s]
    generalize hA3 : mset (mset (mset (mset (mset (mset (mset (mset A2 61 10 0) 61 11 0) 61 12 0) 61 14 1000000) 139 2 0) 139 3 0) 139 4 0) 139 5 0 = A3
    have h61 : (A3 61 10 = 0 ∧ A3 61 11 = 0 ∧ A3 61 12 = 0) ∧ (A3 139 2 = 0 ∧ A3 139 3 = 0 ∧ A3 139 4 = 0 ∧ A3 139 5 = 0) := by
      rw [← hA3]
      simp (disch := omega) only [mset_n, mset_s]
      exact ⟨⟨trivial, trivial, trivial⟩, trivial, trivial, trivial, trivial⟩
    have f3 : ∀ b y, ¬ (b = 61 ∧ 10 ≤ y ∧ y ≤ 14) → ¬ (b = 139 ∧ 2 ≤ y ∧ y ≤ 5) → A3 b y = A2 b y := fun b y u1 u2 => by
      rw [← hA3]
      simp (disch := omega) only [mset_n]
    obtain ⟨A4, L4, g1, g2, g3, g4⟩ := wq_ex (c_clear9 (fu := fu) (A := A3) (L := L2) (o := o) (by omega))
    dsimp only at g2 g3 g4
    subst g2
    rw [g1, mb2_s]
    obtain ⟨A5, L5, k1, k2, k3, k4, k5⟩ := wq_ex (c_clr7 (fu := fu) (A := A4) (L := L4) hf)
    dsimp only at k2 k3 k4 k5
    subst k2
    rw [k1, mb2_s]
    have F5 : ∀ b y, ¬ (275 ≤ b ∧ b ≤ 280) → b ≠ 154 → b ≠ 264 → A5 b y = A3 b y := fun b y u1 u2 u3 => by rw [k5 b y u1, g4 b y (by omega)]
    have F2 : ∀ b y, ¬ (275 ≤ b ∧ b ≤ 280) → b ≠ 154 → b ≠ 264 → ¬ (b = 61 ∧ 10 ≤ y ∧ y ≤ 14) → ¬ (b = 139 ∧ 2 ≤ y ∧ y ≤ 5) → A5 b y = A2 b y := fun b y u1 u2 u3 u4 u5 => by rw [F5 b y u1 u2 u3, f3 b y u4 u5]
    have F1 : ∀ b y, ¬ (275 ≤ b ∧ b ≤ 280) → b ≠ 154 → b ≠ 264 → ¬ (b = 61 ∧ 10 ≤ y ∧ y ≤ 14) → ¬ (b = 139 ∧ 2 ≤ y ∧ y ≤ 5) → ¬ (b = 5 ∧ 3 ≤ y ∧ y ≤ 6) → b ≠ 18 → A5 b y = A1 b y := fun b y u1 u2 u3 u4 u5 u6 u7 => by rw [F2 b y u1 u2 u3 u4 u5, e5 b y u6 u7]
    refine wq_some ⟨rfl, ⟨fun k hk => ?_, ?_, ?_, fun c hc => ?_, ?_, ?_, TfC_w g3 (by decide) (fun b y u1 u2 => k5 b y (by omega)), k3, k4⟩, fun b y u1 u2 u3 u4 u5 u6 u7 u8 u9 => ?_⟩
    · dsimp only
      rw [F1 _ _ (by omega) (by omega) (by omega) (by omega) (by omega) (by omega) (by omega), f1 _ _ (by omega)]
      exact p2 k hk
    · dsimp only
      rw [F1 _ _ (by omega) (by omega) (by omega) (by omega) (by omega) (by omega) (by omega), F1 _ _ (by omega) (by omega) (by omega) (by omega) (by omega) (by omega) (by omega), F1 _ _ (by omega) (by omega) (by omega) (by omega) (by omega) (by omega) (by omega), F1 _ _ (by omega) (by omega) (by omega) (by omega) (by omega) (by omega) (by omega), F1 _ _ (by omega) (by omega) (by omega) (by omega) (by omega) (by omega) (by omega), F1 _ _ (by omega) (by omega) (by omega) (by omega) (by omega) (by omega) (by omega)]
      exact h3
    · dsimp only
      rw [F2 _ _ (by omega) (by omega) (by omega) (by omega) (by omega), F2 _ _ (by omega) (by omega) (by omega) (by omega) (by omega), F2 _ _ (by omega) (by omega) (by omega) (by omega) (by omega), F2 _ _ (by omega) (by omega) (by omega) (by omega) (by omega)]
      exact e3
    · dsimp only
      rw [F2 _ _ (by omega) (by omega) (by omega) (by omega) (by omega)]
      exact e4 c hc
    · dsimp only
      rw [F5 _ _ (by omega) (by omega) (by omega), F5 _ _ (by omega) (by omega) (by omega), F5 _ _ (by omega) (by omega) (by omega)]
      exact h61.1
    · dsimp only
      rw [F5 _ _ (by omega) (by omega) (by omega), F5 _ _ (by omega) (by omega) (by omega), F5 _ _ (by omega) (by omega) (by omega), F5 _ _ (by omega) (by omega) (by omega)]
      exact h61.2
    · dsimp only
      rw [F1 b y u8 u6 u7 u4 u5 u2 u3, f1 b y u1, p3 b y u9]
/-! SYSTEM: all is cleared on both sides -/
theorem c_clr47 {fu : Nat} {A : mwM} {L : mwL} {o : Nat → Nat → Nat} (hf : 300 ≤ fu) : wq (fX1_clear_h47 fu fu (0, A, L)) (fun z => z.2 = L ∧ ClA z.1 o ∧ (∀ c, c < 6 → z.1 284 c = 0) ∧ ∀ a y, a ≠ 284 → ¬ (a = 3 ∧ 13 ≤ y ∧ y ≤ 18) → ¬ (a = 5 ∧ 3 ≤ y ∧ y ≤ 6) → a ≠ 18 → ¬ (a = 61 ∧ 10 ≤ y ∧ y ≤ 14) → ¬ (a = 139 ∧ 2 ≤ y ∧ y ≤ 5) → a ≠ 154 → a ≠ 264 → ¬ (275 ≤ a ∧ a ≤ 280) → a ≠ 292 → z.1 a y = A a y) := by
  refine wq_for (body := fun r s => fX1_clear_i47 fu r s.1 s.2.1 s.2.2) (fun i (a : mwM × mwL) => (sI i, a.1, a.2)) (fun i a => a.2 = L ∧ (∀ c, c < i → a.1 284 c = 0) ∧ ∀ b y, b ≠ 284 → a.1 b y = A b y) 6 ?_ ?_ 6 0 (A, L) fu (by omega) (by omega) ⟨rfl, fun c h => by omega, fun _ _ _ => rfl⟩
  · rintro i ⟨a, l⟩ r hi ⟨p1, p2, p3⟩ ih
    dsimp only at p1 p2 p3
    show wq (fX1_clear_i47 fu r (sI i) a l) _
    unfold fX1_clear_i47
    rw [if_neg (show ¬ (6 : Int32) ≤ sI i by rw [show (6 : Int32) = sI 6 from rfl, sI_le (by omega) (by omega)]; omega), mck_s hi (by omega), sI_nn (by omega), mlet_e, mlet_e, sI_1, nar_f]
    refine ih (mset a 284 i 0, l) ⟨p1, fun c hc => ?_, fun b y u1 => ?_⟩
    · dsimp only
      by_cases e : c = i
      · rw [e, mset_s]
      · rw [mset_n (by omega)]
        exact p2 c (by omega)
    · dsimp only
      rw [mset_n (by omega)]
      exact p3 b y u1
  · rintro ⟨a, l⟩ r ⟨p1, p2, p3⟩
    dsimp only at p1 p2 p3
    subst p1
    show wq (fX1_clear_i47 fu r (sI 6) a l) _
    unfold fX1_clear_i47
    rw [if_pos (show (6 : Int32) ≤ sI 6 by decide)]
    obtain ⟨A1, L1, e1, e2, e3, e4⟩ := wq_ex (c_clr68 (fu := fu) (A := a) (L := l) (o := o) hf)
    dsimp only at e2 e3 e4
    exact ⟨_, e1, e2, e3, fun c hc => by dsimp only; rw [e4 _ _ (by omega) (by omega) (by omega) (by omega) (by omega) (by omega) (by omega) (by omega) (by omega)]; exact p2 c hc, fun b y u0 u1 u2 u3 u4 u5 u6 u7 u8 u9 => by dsimp only; rw [e4 b y u1 u2 u3 u4 u5 u6 u7 u8 u9, p3 b y u0]⟩
theorem c_clr23 {fu : Nat} {A : mwM} {L : mwL} {o : Nat → Nat → Nat} (hf : 300 ≤ fu) : wq (fX1_clear_h23 fu fu (0, A, L)) (fun z => z.2 = L ∧ ClA z.1 o ∧ (∀ c, c < 6 → z.1 284 c = 0) ∧ (∀ x, x < 12 → z.1 (293 + 36 * x) 5 = -1) ∧ ∀ a y, ¬ (293 ≤ a ∧ (a - 293) % 36 = 0 ∧ y = 5) → a ≠ 284 → ¬ (a = 3 ∧ 13 ≤ y ∧ y ≤ 18) → ¬ (a = 5 ∧ 3 ≤ y ∧ y ≤ 6) → a ≠ 18 → ¬ (a = 61 ∧ 10 ≤ y ∧ y ≤ 14) → ¬ (a = 139 ∧ 2 ≤ y ∧ y ≤ 5) → a ≠ 154 → a ≠ 264 → ¬ (275 ≤ a ∧ a ≤ 280) → a ≠ 292 → z.1 a y = A a y) := by
  refine wq_for (body := fun r s => fX1_clear_i23 fu r s.1 s.2.1 s.2.2) (fun i (a : mwM × mwL) => (sI i, a.1, a.2)) (fun i a => a.2 = L ∧ (∀ c, c < i → a.1 (293 + 36 * c) 5 = -1) ∧ ∀ b y, ¬ (293 ≤ b ∧ (b - 293) % 36 = 0 ∧ y = 5) → a.1 b y = A b y) 12 ?_ ?_ 12 0 (A, L) fu (by omega) (by omega) ⟨rfl, fun c h => by omega, fun _ _ _ => rfl⟩
  · rintro i ⟨a, l⟩ r hi ⟨p1, p2, p3⟩ ih
    dsimp only at p1 p2 p3
    show wq (fX1_clear_i23 fu r (sI i) a l) _
    unfold fX1_clear_i23
    rw [if_neg (show ¬ (12 : Int32) ≤ sI i by rw [show (12 : Int32) = sI 12 from rfl, sI_le (by omega) (by omega)]; omega), mck_s hi (by omega), sI_nn (by omega), mlet_e, mlet_e, sI_1]
    refine ih (mset a (293 + 36 * i + 0) 5 (-1), l) ⟨p1, fun c hc => ?_, fun b y u1 => ?_⟩
    · dsimp only
      by_cases e : c = i
      · rw [e]
        exact mset_s
      · rw [mset_n (by omega)]
        exact p2 c (by omega)
    · dsimp only
      rw [mset_n (by omega)]
      exact p3 b y u1
  · rintro ⟨a, l⟩ r ⟨p1, p2, p3⟩
    dsimp only at p1 p2 p3
    subst p1
    show wq (fX1_clear_i23 fu r (sI 12) a l) _
    unfold fX1_clear_i23
    rw [if_pos (show (12 : Int32) ≤ sI 12 by decide)]
    obtain ⟨A1, L1, e1, e2, e3, e4, e5⟩ := wq_ex (c_clr47 (fu := fu) (A := a) (L := l) (o := o) hf)
    dsimp only at e2 e3 e4 e5
    exact ⟨_, e1, e2, e3, e4, fun x hx => by dsimp only; rw [e5 _ _ (by omega) (by omega) (by omega) (by omega) (by omega) (by omega) (by omega) (by omega) (by omega) (by omega)]; exact p2 x hx, fun b y u u0 u1 u2 u3 u4 u5 u6 u7 u8 u9 => by dsimp only; rw [e5 b y u0 u1 u2 u3 u4 u5 u6 u7 u8 u9, p3 b y u]⟩
abbrev ClG (A A' : mwM) : Prop := ∀ a y, a ≠ 283 → ¬ (293 ≤ a ∧ (a - 293) % 36 = 0 ∧ y = 5) → a ≠ 284 → ¬ (a = 3 ∧ 13 ≤ y ∧ y ≤ 18) → ¬ (a = 5 ∧ 3 ≤ y ∧ y ≤ 6) → a ≠ 18 → ¬ (a = 61 ∧ 10 ≤ y ∧ y ≤ 14) → ¬ (a = 139 ∧ 2 ≤ y ∧ y ≤ 5) → a ≠ 154 → a ≠ 264 → ¬ (275 ≤ a ∧ a ≤ 280) → a ≠ 292 → A' a y = A a y
theorem c_clear1 {fu : Nat} {A : mwM} {L : mwL} {o : Nat → Nat → Nat} (hf : 300 ≤ fu) : wq (DX1_clear fu A L) (fun z => z.2 = L ∧ ClA z.1 o ∧ (∀ c, c < 6 → z.1 284 c = 0) ∧ (∀ x, x < 12 → z.1 (293 + 36 * x) 5 = -1) ∧ (∀ i, i < 12 → z.1 283 i = -1) ∧ ClG A z.1) := by
  refine wq_for (body := fun r s => fX1_clear_i2 fu r s.1 s.2.1 s.2.2) (fun i (a : mwM × mwL) => (sI i, a.1, a.2)) (fun i a => a.2 = L ∧ (∀ c, c < i → a.1 283 c = -1) ∧ ∀ b y, b ≠ 283 → a.1 b y = A b y) 12 ?_ ?_ 12 0 (A, L) fu (by omega) (by omega) ⟨rfl, fun c h => by omega, fun _ _ _ => rfl⟩
  · rintro i ⟨a, l⟩ r hi ⟨p1, p2, p3⟩ ih
    dsimp only at p1 p2 p3
    show wq (fX1_clear_i2 fu r (sI i) a l) _
    unfold fX1_clear_i2
    rw [if_neg (show ¬ (12 : Int32) ≤ sI i by rw [show (12 : Int32) = sI 12 from rfl, sI_le (by omega) (by omega)]; omega), mck_s hi (by omega), sI_nn (by omega), mlet_e, mlet_e, sI_1]
    refine ih (mset a 283 i (-1), l) ⟨p1, fun c hc => ?_, fun b y u1 => ?_⟩
    · dsimp only
      by_cases e : c = i
      · rw [e, mset_s]
      · rw [mset_n (by omega)]
        exact p2 c (by omega)
    · dsimp only
      rw [mset_n (by omega)]
      exact p3 b y u1
  · rintro ⟨a, l⟩ r ⟨p1, p2, p3⟩
    dsimp only at p1 p2 p3
    subst p1
    show wq (fX1_clear_i2 fu r (sI 12) a l) _
    unfold fX1_clear_i2
    rw [if_pos (show (12 : Int32) ≤ sI 12 by decide)]
    obtain ⟨A1, L1, e1, e2, e3, e4, e5, e6⟩ := wq_ex (c_clr23 (fu := fu) (A := a) (L := l) (o := o) hf)
    dsimp only at e2 e3 e4 e5 e6
    exact ⟨_, e1, e2, e3, e4, e5, fun x hx => by dsimp only; rw [e6 _ _ (by omega) (by omega) (by omega) (by omega) (by omega) (by omega) (by omega) (by omega) (by omega) (by omega) (by omega)]; exact p2 x hx, fun b y u' u u0 u1 u2 u3 u4 u5 u6 u7 u8 u9 => by dsimp only; rw [e6 b y u u0 u1 u2 u3 u4 u5 u6 u7 u8 u9, p3 b y u']⟩
/-- the reference's troubles -/
theorem m_anew58 {fu : Nat} {a1 : Int32} {M : mwM} {L : mwL} (hf : 300 ≤ fu) : wq (fX18_anew_h58 fu a1 fu (0, M, L)) (fun z => z.2 = L ∧ (∀ j, j < 201 → z.1 906 j = 0 ∧ z.1 916 j = 0) ∧ ∀ a y, a ≠ 906 → a ≠ 916 → a ≠ 917 → z.1 a y = M a y) := by
  refine wq_for (body := fun r s => fX18_anew_i58 fu a1 r s.1 s.2.1 s.2.2) (fun i (a : mwM × mwL) => (sI i, a.1, a.2)) (fun i a => a.2 = L ∧ (∀ c, c < i → a.1 906 c = 0 ∧ a.1 916 c = 0) ∧ ∀ b y, b ≠ 906 → b ≠ 916 → b ≠ 917 → a.1 b y = M b y) 201 ?_ ?_ 201 0 (M, L) fu (by omega) (by omega) ⟨rfl, fun c h => by omega, fun _ _ _ _ _ => rfl⟩
  · rintro i ⟨a, l⟩ r hi ⟨p1, p2, p3⟩ ih
    dsimp only at p1 p2 p3
    show wq (fX18_anew_i58 fu a1 r (sI i) a l) _
    unfold fX18_anew_i58
    rw [if_neg (show ¬ (201 : Int32) ≤ sI i by rw [show (201 : Int32) = sI 201 from rfl, sI_le (by omega) (by omega)]; omega)]
    simp (disch := omega) only [mck_s, sI_nn, mlet_e, sI_1]
    refine ih (mset (mset (mset a 906 i 0) 916 i 0) 917 i 0, l) ⟨p1, fun c hc => ?_, fun b y u1 u2 u3 => ?_⟩
    · dsimp only
      by_cases e : c = i
      · subst e
        simp (disch := omega) only [mset_n, mset_s]
        exact ⟨trivial, trivial⟩
      · have := p2 c (by omega)
        simp (disch := omega) only [mset_n]
        exact this
    · dsimp only
      simp (disch := omega) only [mset_n]
      exact p3 b y u1 u2 u3
  · rintro ⟨a, l⟩ r ⟨p1, p2, p3⟩
    dsimp only at p1 p2 p3
    show wq (fX18_anew_i58 fu a1 r (sI 201) a l) _
    unfold fX18_anew_i58
    rw [if_pos (show (201 : Int32) ≤ sI 201 by decide)]
    exact wq_some ⟨p1, p2, p3⟩
theorem m_anew18 {fu : Nat} {M : mwM} {L : mwL} (hf : 300 ≤ fu) : wq (DX18_anew fu 8 M L) (fun z => z.2 = L ∧ (z.1 902 1 = 8 ∧ z.1 902 2 = 0 ∧ z.1 902 19 = 0 ∧ z.1 902 20 = 0 ∧ z.1 902 23 = 0 ∧ z.1 902 24 = 0 ∧ z.1 902 25 = 0) ∧ (∀ k, k < 32 → z.1 920 k = 0) ∧ (∀ j, j < 201 → z.1 906 j = 0 ∧ z.1 916 j = 0) ∧ ∀ a y, ¬ (902 ≤ a ∧ a ≤ 920) → z.1 a y = M a y) := by
  unfold DX18_anew
  simp only [mlet_e]
  generalize hM1 : mset (mset (mset (mset (mset (mset (mset M 902 1 8) 902 2 0) 902 19 0) 902 20 0) 902 23 0) 902 24 0) 902 25 0 = M1
  have h1 : M1 902 1 = 8 ∧ M1 902 2 = 0 ∧ M1 902 19 = 0 ∧ M1 902 20 = 0 ∧ M1 902 23 = 0 ∧ M1 902 24 = 0 ∧ M1 902 25 = 0 := by
    rw [← hM1]
    simp (disch := omega) only [mset_n, mset_s]
    exact ⟨trivial, trivial, trivial, trivial, trivial, trivial, trivial⟩
  have f1 : ∀ b y, b ≠ 902 → M1 b y = M b y := fun b y u => by
    rw [← hM1]
    simp (disch := omega) only [mset_n]
  refine wq_for (body := fun r s => fX18_anew_i37 fu 8 r s.1 s.2.1 s.2.2) (fun i (a : mwM × mwL) => (sI i, a.1, a.2)) (fun i a => a.2 = L ∧ (∀ c, c < i → a.1 920 c = 0) ∧ ∀ b y, b ≠ 920 → a.1 b y = M1 b y) 32 ?_ ?_ 32 0 (M1, L) fu (by omega) (by omega) ⟨rfl, fun c h => by omega, fun _ _ _ => rfl⟩
  · rintro i ⟨a, l⟩ r hi ⟨p1, p2, p3⟩ ih
    dsimp only at p1 p2 p3
    show wq (fX18_anew_i37 fu 8 r (sI i) a l) _
    unfold fX18_anew_i37
    rw [if_neg (show ¬ (32 : Int32) ≤ sI i by rw [show (32 : Int32) = sI 32 from rfl, sI_le (by omega) (by omega)]; omega), mck_s hi (by omega), sI_nn (by omega), mlet_e, mlet_e, sI_1, nar_f]
    refine ih (mset a 920 i 0, l) ⟨p1, fun c hc => ?_, fun b y u1 => ?_⟩
    · dsimp only
      by_cases e : c = i
      · rw [e, mset_s]
      · rw [mset_n (by omega)]
        exact p2 c (by omega)
    · dsimp only
      rw [mset_n (by omega)]
      exact p3 b y u1
  · rintro ⟨a, l⟩ r ⟨p1, p2, p3⟩
    dsimp only at p1 p2 p3
    subst p1
    show wq (fX18_anew_i37 fu 8 r (sI 32) a l) _
    unfold fX18_anew_i37
    rw [if_pos (show (32 : Int32) ≤ sI 32 by decide)]
    obtain ⟨M2, L2, e1, e2, e3, e4⟩ := wq_ex (m_anew58 (fu := fu) (a1 := 8) (M := a) (L := l) hf)
    dsimp only at e2 e3 e4
    refine ⟨_, e1, e2, ?_, fun k hk => ?_, e3, fun b y u => ?_⟩
    · dsimp only
      rw [e4 _ _ (by omega) (by omega) (by omega), e4 _ _ (by omega) (by omega) (by omega), e4 _ _ (by omega) (by omega) (by omega), e4 _ _ (by omega) (by omega) (by omega), e4 _ _ (by omega) (by omega) (by omega), e4 _ _ (by omega) (by omega) (by omega), e4 _ _ (by omega) (by omega) (by omega), p3 _ _ (by omega), p3 _ _ (by omega), p3 _ _ (by omega), p3 _ _ (by omega), p3 _ _ (by omega), p3 _ _ (by omega), p3 _ _ (by omega)]
      exact h1
    · dsimp only
      rw [e4 _ _ (by omega) (by omega) (by omega)]
      exact p2 k hk
    · dsimp only
      rw [e4 b y (by omega) (by omega) (by omega), p3 b y (by omega), f1 b y (by omega)]
/-- nothing is read yet -/
theorem PR_0 {A M : mwM} {Lc Lm : mwL} {n : Nat} {o : Nat → Nat → Nat} (hA : ClA A o) (hx : ∀ x, x < 12 → A (293 + 36 * x) 5 = -1) (h283 : ∀ i, i < 12 → A 283 i = -1) (h13 : A 1 3 = 0) (hM : M 732 14 = 0 ∧ M 732 19 = 0 ∧ M 732 20 = 0 ∧ M 732 24 = 0 ∧ M 732 33 = 0 ∧ M 732 45 = 0 ∧ M 732 55 = 0 ∧ M 732 62 = 0) (h902 : M 902 1 = 8 ∧ M 902 2 = 0 ∧ M 902 19 = 0 ∧ M 902 20 = 0 ∧ M 902 23 = 0 ∧ M 902 24 = 0 ∧ M 902 25 = 0) (h920 : ∀ k, k < 32 → M 920 k = 0) (h906 : ∀ j, j < 201 → M 906 j = 0 ∧ M 916 j = 0) (hB : PrB M Lc Lm) : PE A M Lc Lm n 0 := by
  obtain ⟨c1, ⟨c2, c3, c4, c5, c6, c7⟩, ⟨c8, c9, c10, c11⟩, c12, ⟨c13, c14, c15⟩, ⟨c16, c17, c18, c19⟩, _⟩ := hA
  obtain ⟨m14, m19, m20, m24, m33, m45, m55, m62⟩ := hM
  obtain ⟨t1, t2, t19, t20, t23, t24, t25⟩ := h902
  refine ⟨0, 0, 0, 0, 0, 0, 0, [], fun _ => 0, fun _ => 0, fun _ _ => 0, fun _ => false, fun _ _ => 0, fun _ _ => 0, fun _ _ => 0, ⟨⟨c2, m19, by omega⟩, ⟨c8, m24, by omega, fun i hi => absurd hi (by omega), fun i _ h => h283 i h⟩, ⟨c3, m33, by omega, fun x hx => absurd hx (by omega), fun x _ h => hx x h⟩, hB, ⟨c13, m45, by omega, fun s hs => absurd hs (by omega)⟩, ⟨⟨c15, by omega, fun i hi => absurd hi (by omega)⟩, ⟨m20, by omega, fun i hi => absurd hi (by omega)⟩, fun i hi => absurd hi (by omega)⟩, ⟨c4, m55, by omega, fun r hr => absurd hr (by omega)⟩, ⟨⟨c16, m62, by omega, fun w hw => absurd hw (by omega)⟩, ⟨by omega, c16, t2, t1, t23, by rw [c18, t24], c19, t25, h920, ⟨0, by omega, t20⟩, fun i hi => absurd hi (by omega), [], fun _ => 0, ⟨by decide, fun x hx => absurd hx (by simp), c17, fun e he => absurd he (by simp)⟩, ⟨fun i hi => absurd hi (by omega), fun i hi => absurd hi (by omega), List.Pairwise.nil, 0, by omega, t19, fun i hi => absurd hi (by omega)⟩, fun i hi => absurd hi (by simp)⟩, fun w hw => absurd hw (by omega), fun j j1 j2 => h906 j (by omega)⟩, ⟨⟨h13, by decide, fun i hi => absurd hi (by simp)⟩, fun q hq => absurd hq (by simp), ⟨m14, by decide, fun k hk => absurd hk (by simp [nsL])⟩, by omega, fun x hx => absurd hx (by omega)⟩, ⟨rfl, fun q hq => absurd hq (by simp)⟩⟩, by decide, by decide⟩
/-! SYSTEM: the text is read, the car is joined -/
theorem CAR_f {A A' M M' : mwM} {Lc Lm : mwL} {C S F W R X T t E : Nat} {d : Nat → Nat → Nat} {tu : Nat → Bool} {g : Nat → Nat → Nat} {own Sb bd : Nat → Nat} {si : Nat → Bool} {p : PB} {o : Nat → Nat → Nat} {e ec tc fl : Nat → Nat} (h : CAR A M Lc Lm C S F W R X T t E d tu g own Sb bd si p o e ec tc fl) (hA : ∀ a y, 3 ≤ a → A' a y = A a y) (hM : ∀ a y, ¬ (a = 732 ∧ y ≤ 12) → M' a y = M a y) : CAR A' M' Lc Lm C S F W R X T t E d tu g own Sb bd si p o e ec tc fl := by
  obtain ⟨hTk, hTr, hp, hBu, hSl, hCo, hCx, h17, h924, h0, h4, hE, hbd⟩ := h
  obtain ⟨kS, kO, kR, kQ, kW, kT, kC, kK, kN, k1, k2, k16, k83, kt⟩ := id hTk
  refine ⟨TkB_g hTk (FrS_f kS (fun a y u => hA a y (by omega)) (fun a y u => hM a y (by omega))) (fun x hx => QdR_f (kQ x hx) (fun a y u => hA a y (by omega)) (fun a y u => hM a y (by omega)) (fun _ => rfl) (fun _ => rfl)) (WtR_f kW (fun a y u => hA a y (by omega)) (fun a y u => hM a y (by omega)) (fun _ => rfl)) (RTr_fr kT (fun a y u1 u2 => hA a y (by omega)) (fun a y u1 u2 _ => hM a y (by omega))) (RCd_fr kC (fun a y u1 u2 => hA a y (by omega)) (fun a y u => hM a y (by omega))) (fun a y u => hA a y (by omega)) (fun a y u => hM a y (by omega)) (fun _ => rfl) (fun _ _ _ => rfl) (by rw [hA _ _ (by omega)]; exact k16) (by rw [hM _ _ (by omega)]; exact k83) kt, TrB_f hTr (fun a y u => hA a y (by omega)) (fun a y u => hM a y (by omega)) (fun _ _ _ _ => rfl), hp, BusE_fr hBu (fun a y u1 u2 => hA a y (by omega)) (fun a y u1 u2 _ => hM a y (by omega)), SlW_f hSl (fun a y u => hA a y (by omega)) (fun a y u => hM a y (by omega)), RCo_w hCo (fun a y u1 u2 => hA a y (by omega)) (fun a y u1 u2 => hM a y (by omega)) (fun _ _ _ _ => rfl), fun x hx => CxR_f (hCx x hx) (Nat.le_refl _) (fun a y u1 u2 u3 => hA a y (by omega)) (fun a y u1 u2 u3 => hM a y (by omega)) (hM _ _ (by omega)) (fun _ _ _ => rfl) (by
    obtain ⟨_, _, _, _, _, q⟩ := kQ x hx
    exact q), fun i hi => by rw [hA _ _ (by omega), hM _ _ (by omega)]; exact h17 i hi, fun k hk => by rw [hM _ _ (by omega)]; exact h924 k hk, by rw [hA _ _ (by omega), hM _ _ (by omega)]; exact h0, by rw [hA _ _ (by omega), hM _ _ (by omega)]; exact h4, hE, hbd⟩
/-- what never changes -/
def HI (A M : mwM) (Lc Lm : mwL) (Sb : Nat → Nat) : Prop := RCd A M Sb ∧ OcA A ∧ M 870 1 = sI 0 ∧ PrB M Lc Lm ∧ ∀ q, q < 12 → ∀ y, y ≤ 40 → M (941 + 53 * q + 8) y = 0
/-- what both keep between calls -/
def HS (A M : mwM) (Lc Lm : mwL) (Sb : Nat → Nat) : Prop := (∃ k, k ≤ 16 ∧ A 0 4 = sI k ∧ M 732 3 = sI k) ∧ (∃ n tx, TxC A n tx ∧ TxM M n tx) ∧ HI A M Lc Lm Sb ∧ A 1 13 = M 732 5 ∧ ((A 0 5 = 0 ∧ M 732 4 = 0) ∨ (A 0 5 = 1 ∧ M 732 4 = 1 ∧ ∃ C S F W R X T t E d tu g own bd si p o e ec tc fl, CAR A M Lc Lm C S F W R X T t E d tu g own Sb bd si p o e ec tc fl ∧ A 3 14 = sI X ∧ ∀ c, C ≤ c → c < 6 → si c = false))
theorem car_hi {A M : mwM} {Lc Lm : mwL} {C S F W R X T t E : Nat} {d : Nat → Nat → Nat} {tu : Nat → Bool} {g : Nat → Nat → Nat} {own Sb bd : Nat → Nat} {si : Nat → Bool} {p : PB} {o : Nat → Nat → Nat} {e ec tc fl : Nat → Nat} (h : CAR A M Lc Lm C S F W R X T t E d tu g own Sb bd si p o e ec tc fl) : RCd A M Sb ∧ OcA A ∧ M 870 1 = sI 0 := by
  obtain ⟨hTk, hTr, hp, ⟨_, _, _, _, _, _, hB⟩, _⟩ := h
  exact ⟨hTk.2.2.2.2.2.2.1, hB.2.2.1, hTr.2.2.1.2.1 0 (Nat.zero_le _)⟩
/-! SYSTEM: the call -/
theorem PR_g {A A' M M' : mwM} {Lc Lm : mwL} {n C T X S K R W : Nat} {nl : List Nm} {ow ct : Nat → Nat} {sg : Nat → Nat → Nat} {tu : Nat → Bool} {ky rd wt : Nat → Nat → Nat} (h : PR A M Lc Lm n C T X S K R W nl ow ct sg tu ky rd wt) (hA : ∀ a y, 2 ≤ a ∨ (a = 1 ∧ y = 3) → A' a y = A a y) (hM : ∀ a y, ¬ (a = 732 ∧ 6 ≤ y ∧ y ≤ 13) → ¬ (743 ≤ a ∧ a ≤ 746 ∧ y = T) → ¬ ((a = 761 ∨ a = 764 ∨ a = 765) ∧ y = S) → M' a y = M a y) : PR A' M' Lc Lm n C T X S K R W nl ow ct sg tu ky rd wt := by
  obtain ⟨⟨h1, h2, h3⟩, h4, h5, h6, h7, h8, h9, h10, h11, h12⟩ := h
  refine ⟨⟨by rw [hA _ _ (by omega)]; exact h1, by rw [hM _ _ (by omega) (by omega) (by omega)]; exact h2, h3⟩, PrT_f h4 (fun a y u => hA a y (by omega)) (fun a y u => hM a y (by omega) (by omega) (by omega)), PrX_f h5 (fun a y u => hA a y (by omega)) (fun a y u => hM a y (by omega) (by omega) (by omega)) (fun _ _ _ => rfl) (fun _ _ => rfl), PrB_f h6 (fun a a1 a2 => hM a 0 (by omega) (by omega) (by omega)) (fun _ _ _ _ _ => rfl) (fun _ _ _ _ _ => rfl), PrS_f h7 (fun a y u => hA a y (by omega)) (fun a y u => hM a y (by omega) (by omega) (by omega)), PrK_f h8 (fun a y u => hA a y (by omega)) (fun a y u => hM a y (by omega) (by omega) (by omega)), RdR_f h9 (fun a y u => hA a y (by omega)) (fun a y u => hM a y (by omega) (by omega) (by omega)) (fun _ => rfl) (fun _ => rfl), PrW_f h10 (fun a y a1 a2 => hA a y (by omega)) (fun a y u => hM a y (by omega) (by omega) (by omega)) (fun _ => rfl), NaR_f h11 (fun a y u => hA a y (by omega)) (fun a y u => hM a y (by omega) (by omega) (by omega)), h12⟩
theorem ClA_f {A A' : mwM} {o : Nat → Nat → Nat} (h : ClA A o) (hA : ∀ a y, 2 ≤ a → A' a y = A a y) : ClA A' o := by
  obtain ⟨c1, c2, c3, c4, c5, c6, c7, c8, c9⟩ := h
  refine ⟨fun k hk => ?_, ?_, ?_, fun c hc => ?_, ?_, ?_, TfC_w c7 (by decide) (fun a y u1 u2 => hA a y (by omega)), ?_, fun c hc => ?_⟩
  · rw [hA _ _ (by omega)]; exact c1 k hk
  · rw [hA _ _ (by omega), hA _ _ (by omega), hA _ _ (by omega), hA _ _ (by omega), hA _ _ (by omega), hA _ _ (by omega)]; exact c2
  · rw [hA _ _ (by omega), hA _ _ (by omega), hA _ _ (by omega), hA _ _ (by omega)]; exact c3
  · rw [hA _ _ (by omega)]; exact c4 c hc
  · rw [hA _ _ (by omega), hA _ _ (by omega), hA _ _ (by omega)]; exact c5
  · rw [hA _ _ (by omega), hA _ _ (by omega), hA _ _ (by omega), hA _ _ (by omega)]; exact c6
  · rw [hA _ _ (by omega)]; exact c8
  · rw [hA _ _ (by omega), hA _ _ (by omega), hA _ _ (by omega), hA _ _ (by omega)]; exact c9 c hc
theorem OcA_f {A A' : mwM} (h : OcA A) (hA : ∀ a y, 47 ≤ a → a ≤ 60 → A' a y = A a y) : OcA A' := fun n hn => by
  obtain ⟨q, hq⟩ := h n hn
  exact ⟨q, OcR_f hq (fun y => hA _ _ (by omega) (by omega))⟩
theorem sys_bad {fu n k : Nat} {A M : mwM} {Lc Lm : mwL} {tx Sb : Nat → Nat} (hk : k ≤ 16) (h4 : A 0 4 = sI k) (h3 : M 732 3 = sI k) (hC : TxC A n tx) (hM : TxM M n tx) (hI : HI A M Lc Lm Sb) (hX : Fx A M) : ∃ r A' M', fX11_system_b59 fu 0 A Lc = some ((0, r), A', Lc) ∧ fX19_system_b127 fu M Lm = some (r, M', Lm) ∧ M' 732 0 = M 732 0 ∧ M' 732 4 = 0 ∧ HS A' M' Lc Lm Sb := by
  obtain ⟨q, w, q1, q2, q3, q4, q5, q6, q7⟩ := hX
  obtain ⟨i1, i2, i3, i4, i5⟩ := hI
  refine ⟨sI q, mset A 0 5 0, mset (mset M 732 4 0) 732 5 (sI w), ?_, ?_, by rw [mset_n (by omega), mset_n (by omega)], by rw [mset_n (by omega), mset_s], ⟨k, hk, by rw [mset_n (by omega)]; exact h4, by rw [mset_n (by omega), mset_n (by omega)]; exact h3⟩, ⟨n, tx, TxC_f hC (fun x y u => mset_n (by omega)), TxM_f hM (fun x y u => by rw [mset_n (by omega), mset_n (by omega)])⟩, ⟨RCd_fr i1 (fun a y u1 u2 => mset_n (by omega)) (fun a y u => by rw [mset_n (by omega), mset_n (by omega)]), OcA_f i2 (fun a y u1 u2 => mset_n (by omega)), by rw [mset_n (by omega), mset_n (by omega)]; exact i3, PrB_f i4 (fun a u1 u2 => by rw [mset_n (by omega), mset_n (by omega)]) (fun _ _ _ _ _ => rfl) (fun _ _ _ _ _ => rfl), fun a ha y hy => by rw [mset_n (by omega), mset_n (by omega)]; exact i5 a ha y hy⟩, by rw [mset_n (by omega), mset_s]; exact q6, Or.inl ⟨mset_s, by rw [mset_n (by omega), mset_s]⟩⟩
  · unfold fX11_system_b59 fX11_system_b76
    rw [mzz_0, mlet_e, mset_s, if_pos (show (0 : Int32) = 0 from rfl), mset_n (show ¬ (1 = 0 ∧ 12 = 5) by omega), q4]
  · unfold fX19_system_b127 fX19_system_b128
    rw [mzz_0, mlet_e, mset_s, if_pos (show (0 : Int32) = 0 from rfl), mlet_e, mset_n (show ¬ (732 = 732 ∧ 12 = 4) by omega), q7, mset_n (show ¬ (732 = 732 ∧ 11 = 5) by omega), mset_n (show ¬ (732 = 732 ∧ 11 = 4) by omega), q5]
/-- the reference's two numbers of states agree -/
def H54 (M : mwM) : Prop := M 732 4 = 1 → ∀ X x : Nat, M 732 33 = sI X → X ≤ 12 → x < X → M 754 x = M (964 + 53 * x) 2
theorem H54_0 {M : mwM} {v : Int32} (h : H54 M) : H54 (mset M 732 0 v) := fun h4 X x h33 hX hx => by
  rw [mset_n (by omega), mset_n (by omega)]
  exact h (by rw [mset_n (by omega)] at h4; exact h4) X x (by rw [mset_n (by omega)] at h33; exact h33) hX hx
theorem H54_n {M : mwM} (h : M 732 4 = 0) : H54 M := fun h4 => by
  rw [h] at h4
  exact absurd h4 (by decide)
theorem HS_0 {A M : mwM} {Lc Lm : mwL} {Sb : Nat → Nat} {v : Int32} (h : HS A M Lc Lm Sb) : HS A (mset M 732 0 v) Lc Lm Sb := by
  obtain ⟨⟨k, k1, k2, k3⟩, ⟨n, tx, t1, t2⟩, ⟨i1, i2, i3, i4, i5⟩, h5, hc⟩ := h
  refine ⟨⟨k, k1, k2, by rw [mset_n (by omega)]; exact k3⟩, ⟨n, tx, t1, TxM_f t2 (fun x y u => mset_n (by omega))⟩, ⟨RCd_fr i1 (fun _ _ _ _ => rfl) (fun a y u => mset_n (by omega)), i2, by rw [mset_n (by omega)]; exact i3, PrB_f i4 (fun a u1 u2 => mset_n (by omega)) (fun _ _ _ _ _ => rfl) (fun _ _ _ _ _ => rfl), fun a ha y hy => by rw [mset_n (by omega)]; exact i5 a ha y hy⟩, by rw [mset_n (by omega)]; exact h5, ?_⟩
  rcases hc with ⟨c1, c2⟩ | ⟨c1, c2, C, S, F, W, R, X, T, t, E, d, tu, g, own, bd, si, p, o, e, ec, tc, fl, c3, c4, c5⟩
  · exact Or.inl ⟨c1, by rw [mset_n (by omega)]; exact c2⟩
  · exact Or.inr ⟨c1, by rw [mset_n (by omega)]; exact c2, C, S, F, W, R, X, T, t, E, d, tu, g, own, bd, si, p, o, e, ec, tc, fl, CAR_f c3 (fun _ _ _ => rfl) (fun a y u => mset_n (by omega)), c4, c5⟩
theorem st_system {fu : Nat} {A M : mwM} {Lc Lm : mwL} {Sb : Nat → Nat} (hz : ∀ (A0 : mwM) (L0 : mwL) (A' : mwM) (L' : mwL), fX8_readText_h19 fu fu (0, 0, A0, L0) = some (A', L') → A' 1 12 = 0 → A' 1 13 = A0 1 13) (hfu : 150000 ≤ fu) (h : HS A M Lc Lm Sb) : ∃ (w : Nat) (r : Int32) (A' M' : mwM) (Lc' Lm' : mwL), DX11_system fu A Lc = some ((w, r), A', Lc') ∧ DX19_system fu M Lm = some (r, M', Lm') ∧ w ≤ 1 ∧ M' 732 0 = sI w ∧ HS A' M' Lc' Lm' Sb ∧ (H54 M → H54 M') := by
  obtain ⟨⟨k, k1, k2, k3⟩, ⟨n, tx, t1, t2⟩, ⟨i1, i2, i3, i4, i5⟩, h5, hc⟩ := id h
  unfold DX11_system DX19_system
  rw [k2, k3]
  by_cases c16 : k = 16
  · rw [if_neg (show ¬ sI k < 16 by rw [show (16 : Int32) = sI 16 from rfl, sI_lt (by omega) (by omega)]; omega), if_pos (show sI k = 16 by rw [c16]; rfl)]
    unfold fX19_system_b15
    rw [mlet_e, mset_s, if_neg (show ¬ (1 : Int32) ≤ 0 by decide)]
    exact ⟨1, 0, A, _, Lc, Lm, rfl, rfl, by omega, mset_s, HS_0 h, H54_0⟩
  rw [if_pos (show sI k < 16 by rw [show (16 : Int32) = sI 16 from rfl, sI_lt (by omega) (by omega)]; omega), if_neg (show ¬ sI k = 16 by rw [show (16 : Int32) = sI 16 from rfl, sI_eq (by omega) (by omega)]; exact c16), mlet_e, sI_1]
  -- the class clears
  obtain ⟨B1, L1, e1, e2, e3, e4, e5, e6, e7⟩ := wq_ex (c_clear1 (fu := fu) (A := mset A 0 4 (sI (k + 1))) (L := Lc) (o := fun _ _ => 0) (by omega))
  dsimp only at e2 e3 e4 e5 e6 e7
  subst e2
  rw [e1, mb2_s]
  unfold DX8_readText
  simp only [mlet_e]
  generalize hA1 : mset (mset (mset B1 1 3 0) 1 12 0) 1 13 0 = A1
  have fA1 : ∀ a y, ¬ (a = 1 ∧ (y = 3 ∨ y = 12 ∨ y = 13)) → A1 a y = B1 a y := fun a y u => by rw [← hA1, mset_n (by omega), mset_n (by omega), mset_n (by omega)]
  have a3 : A1 1 3 = 0 := by rw [← hA1, mset_n (by omega), mset_n (by omega), mset_s]
  have a12 : A1 1 12 = 0 := by rw [← hA1, mset_n (by omega), mset_s]
  have a13 : A1 1 13 = 0 := by rw [← hA1, mset_s]
  have a04 : A1 0 4 = sI (k + 1) := by rw [fA1 _ _ (by omega), e7 _ _ (by omega) (by omega) (by omega) (by omega) (by omega) (by omega) (by omega) (by omega) (by omega) (by omega) (by omega) (by omega), mset_s]
  have fB : ∀ a y, (a = 1 ∧ y = 4) ∨ a = 2 ∨ (20 ≤ a ∧ a ≤ 60) ∨ (98 ≤ a ∧ a ≤ 136) → A1 a y = A a y := fun a y u => by rw [fA1 a y (by omega), e7 a y (by omega) (by omega) (by omega) (by omega) (by omega) (by omega) (by omega) (by omega) (by omega) (by omega) (by omega) (by omega), mset_n (by omega)]
  -- the reference clears
  unfold fX19_system_b15
  rw [mlet_e, mset_s, if_pos (show (0 : Int32) ≤ 0 by decide)]
  simp only [mlet_e]
  rw [mset_n (show ¬ (732 = 732 ∧ 3 = 0) by omega), k3, sI_1]
  generalize hM0 : mset (mset (mset (mset (mset (mset (mset (mset (mset (mset (mset (mset (mset M 732 0 0) 732 3 (sI (k + 1))) 732 4 0) 732 5 0) 732 14 0) 732 19 0) 732 20 0) 732 24 0) 732 33 0) 732 45 0) 732 55 0) 732 62 0) 732 67 0 = M0
  have z0 : M0 732 0 = 0 ∧ M0 732 3 = sI (k + 1) ∧ M0 732 5 = 0 ∧ M0 732 67 = 0 ∧ (M0 732 14 = 0 ∧ M0 732 19 = 0 ∧ M0 732 20 = 0 ∧ M0 732 24 = 0 ∧ M0 732 33 = 0 ∧ M0 732 45 = 0 ∧ M0 732 55 = 0 ∧ M0 732 62 = 0) := by
    rw [← hM0]
    simp (disch := omega) only [mset_n, mset_s]
    exact ⟨trivial, trivial, trivial, trivial, trivial, trivial, trivial, trivial, trivial, trivial, trivial, trivial⟩
  have fM0 : ∀ a y, ¬ (a = 732 ∧ y ≠ 2) → M0 a y = M a y := fun a y u => by
    rw [← hM0]
    simp (disch := omega) only [mset_n]
  obtain ⟨M1, L2, g1, g2, g3, g4, g5, g6⟩ := wq_ex (m_anew18 (fu := fu) (M := M0) (L := Lm) (by omega))
  dsimp only at g2 g3 g4 g5 g6
  subst g2
  rw [g1, mb2_s]
  obtain ⟨y0, y3, y5, y67, y14, y19, y20, y24, y33, y45, y55, y62⟩ := z0
  have fM1 : ∀ a y, ¬ (a = 732 ∧ y ≠ 2) → ¬ (902 ≤ a ∧ a ≤ 920) → M1 a y = M a y := fun a y u1 u2 => by rw [g6 a y u2, fM0 a y u1]
  have m7 : ∀ y, M1 732 y = M0 732 y := fun y => g6 _ _ (by omega)
  have hC1 : TxC A1 n tx := TxC_f t1 (fun a y u => fB a y (by omega))
  have hT1 : TxM M1 n tx := TxM_f t2 (fun a y u => fM1 a y (by omega) (by omega))
  have hB1 : PrB M1 L1 L2 := PrB_f i4 (fun a u1 u2 => fM1 a 0 (by omega) (by omega)) (fun _ _ _ _ _ => rfl) (fun _ _ _ _ _ => rfl)
  have hcl : ClA A1 (fun _ _ => 0) := ClA_f e3 (fun a y u => fA1 a y (by omega))
  have pe : PE A1 M1 L1 L2 n 0 := PR_0 hcl (fun x hx => by rw [fA1 _ _ (by omega)]; exact e5 x hx) (fun i hi => by rw [fA1 _ _ (by omega)]; exact e6 i hi) a3 (by rw [m7, m7, m7, m7, m7, m7, m7, m7]; exact ⟨y14, y19, y20, y24, y33, y45, y55, y62⟩) g3 g4 g5 hB1
  have hn := hC1.2.1
  obtain ⟨A2, M2, Lc2, Lm2, q1, q2, q3, q4, q5, ⟨r1, r2, r3, r4⟩⟩ := st_lines2 (fu := fu) (n := n) (tx := tx) (by omega) n 0 0 fu fu A1 M1 L1 L2 (by omega) (by omega) (by omega) (by omega) (by omega) hC1 hT1 pe a12
  rw [show fX8_readText_h19 fu fu (0, 0, A1, L1) = fX8_readText_b87 fu A2 Lc2 from q1]
  -- what stays through the reading
  have s04 : A2 0 4 = sI (k + 1) := by rw [r1 _ _ (by omega) (by omega)]; exact a04
  have s3 : M2 732 3 = sI (k + 1) := by rw [r2 _ _ (by omega) (by omega), m7]; exact y3
  have s0 : M2 732 0 = 0 := by rw [r2 _ _ (by omega) (by omega), m7]; exact y0
  have s5 : M2 732 5 = 0 := by rw [r2 _ _ (by omega) (by omega), m7]; exact y5
  have R2 : RCd A2 M2 Sb := RCd_fr i1 (fun a y u1 u2 => by rw [r1 a y (by omega) (by omega), fB a y (by omega)]) (fun a y u => by rw [r2 a y (by omega) (by omega), fM1 a y (by omega) (by omega)])
  have O2 : OcA A2 := OcA_f i2 (fun a y u1 u2 => by rw [r1 a y (by omega) (by omega), fB a y (by omega)])
  have E2 : M2 870 1 = sI 0 := by rw [r2 _ _ (by omega) (by omega), fM1 _ _ (by omega) (by omega)]; exact i3
  have I2 : ∀ q, q < 12 → ∀ y, y ≤ 40 → M2 (941 + 53 * q + 8) y = 0 := fun q hq y hy => by rw [r2 _ _ (by omega) (by omega), fM1 _ _ (by omega) (by omega)]; exact i5 q hq y hy
  obtain ⟨C, T, X, S, K, R, W, nl, ow, ct, sg, tu, ky, rd, wt, pr, _, _⟩ := q5
  have hI2 : HI A2 M2 Lc2 Lm2 Sb := ⟨R2, O2, E2, pr.2.2.2.1, I2⟩
  unfold DX19_read
  rcases q2 with ⟨g12, eM⟩ | ⟨hX, eM⟩
  rotate_left
  · -- a line is wrong
    have eb : fX8_readText_b87 fu A2 Lc2 = some (A2, Lc2) := by
      unfold fX8_readText_b87
      rw [if_neg (Fx_n hX)]
      rfl
    rw [eb, mb2_s, if_neg (Fx_n hX), show fX19_read_h2 fu fu (0, M1, L2) = _ from eM, mb3_s, if_pos (show (0 : Int32) = 0 from rfl)]
    obtain ⟨r, A', M', x1, x2, x3, x5, x4⟩ := sys_bad (fu := fu) (by omega) s04 s3 q3 q4 hI2 hX
    exact ⟨0, r, A', M', Lc2, Lm2, x1, x2, by omega, by rw [x3]; exact s0, x4, fun _ => H54_n x5⟩
  rw [show fX19_read_h2 fu fu (0, M1, L2) = eoM fu M2 Lm2 from eM]
  have jz : JZ A2 M2 := ⟨by rw [r1 _ _ (by omega) (by omega)]; exact hcl.2.2.2.2.1.2.1, by rw [r2 _ _ (by omega) (by omega), m7]; exact y67, I2⟩
  rcases st_judge (fu := fu) (fX19_system_b127 fu) (fun M21 L22 => mb3 (DX19_build fu M21 L22) (fun r27 M25 L26 => (if r27 = 0 then fX19_system_b127 fu M25 L26 else fX19_system_b128 fu 1 M25 L26))) (by omega) pr q3 q4 g12 jz with ⟨A3, M3, b1, b2, hX, b4, b5, b6⟩ | ⟨c0, hno, b1, b2⟩
  · rw [b1, mb2_s, if_neg (Fx_n hX), b2]
    have hI3 : HI A3 M3 Lc2 Lm2 Sb := ⟨RCd_fr R2 (fun a y u1 u2 => b4 a y (by omega)) (fun a y u => b5 a y (by omega) (by omega) (by omega) (by omega)), OcA_f O2 (fun a y u1 u2 => b4 a y (by omega)), by rw [b5 _ _ (by omega) (by omega) (by omega) (by omega)]; exact E2, PrB_f pr.2.2.2.1 (fun a u1 u2 => b5 a 0 (by omega) (by omega) (by omega) (by omega)) (fun _ _ _ _ _ => rfl) (fun _ _ _ _ _ => rfl), b6⟩
    obtain ⟨r, A', M', x1, x2, x3, x5, x4⟩ := sys_bad (fu := fu) (k := k + 1) (by omega) (by rw [b4 _ _ (by omega)]; exact s04) (by rw [b5 _ _ (by omega) (by omega) (by omega) (by omega)]; exact s3) (TxC_f q3 (fun a y u => b4 a y (by omega))) (TxM_f q4 (fun a y u => b5 a y (by omega) (by omega) (by omega) (by omega))) hI3 hX
    exact ⟨0, r, A', M', Lc2, Lm2, x1, x2, by omega, by rw [x3, b5 _ _ (by omega) (by omega) (by omega) (by omega)]; exact s0, x4, fun _ => H54_n x5⟩
  · -- the car is joined
    rw [b1, mb2_s, if_pos g12, b2]
    unfold fX11_system_b59
    rw [show mzz (1 : Int32) (mlet (mset A2 0 5 1) (fun M2 => (if (M2 0 5) = 0 then fX11_system_b76 fu M2 Lc2 else mb2 (DX1_join fu M2 Lc2) (fun M4 L5 => fX11_system_b76 fu M4 L5)))) = mlet (mset A2 0 5 1) (fun M2 => (if (M2 0 5) = 0 then fX11_system_b76 fu M2 Lc2 else mb2 (DX1_join fu M2 Lc2) (fun M4 L5 => fX11_system_b76 fu M4 L5))) from rfl, mlet_e, mset_s, if_neg (show ¬ (1 : Int32) = 0 by decide)]
    generalize hA3 : mset A2 0 5 1 = A3
    have fA3 : ∀ a y, ¬ (a = 0 ∧ y = 5) → A3 a y = A2 a y := fun a y u => by rw [← hA3, mset_n (by omega)]
    have a05 : A3 0 5 = 1 := by rw [← hA3, mset_s]
    have pr3 := PR_g pr (A' := A3) (M' := M2) (fun a y u => fA3 a y (by omega)) (fun _ _ _ _ _ => rfl)
    have f2 : ∀ a y, rA a y → ¬ (a = 1 ∧ y = 6) → a ≠ 0 → A3 a y = A1 a y := fun a y u1 u2 u3 => by rw [fA3 a y (by omega), r1 a y u1 u2]
    obtain ⟨c1, ⟨_, _, _, c5, c6, c7⟩, ⟨_, c9, _, c11⟩, c12, ⟨_, c14, _⟩, _, c20, c21, c22⟩ := hcl
    have j0 : J0 A3 M2 Sb (fun _ _ => 0) := by
      refine ⟨RCd_fr R2 (fun a y u1 u2 => fA3 a y (by omega)) (fun _ _ _ => rfl), OcA_f O2 (fun a y u1 u2 => fA3 a y (by omega)), E2, ⟨?_, ?_, ?_⟩, fun c hc => ?_, fun q hq => ?_, ⟨?_, ?_, fun c hc => ?_⟩, TfC_w c20 (by decide) (fun a y u1 u2 => f2 a y (by omega) (by omega) (by omega)), ?_, fun c hc => ?_⟩
      · rw [f2 _ _ (by omega) (by omega) (by omega)]; exact c5
      · rw [f2 _ _ (by omega) (by omega) (by omega)]; exact c6
      · rw [f2 _ _ (by omega) (by omega) (by omega)]; exact c7
      · rw [f2 _ _ (by omega) (by omega) (by omega), fA1 _ _ (by omega)]; exact e4 c hc
      · rw [f2 _ _ (by omega) (by omega) (by omega)]; exact c1 q hq
      · rw [f2 _ _ (by omega) (by omega) (by omega)]; exact c9
      · rw [f2 _ _ (by omega) (by omega) (by omega)]; exact c11
      · rw [f2 _ _ (by omega) (by omega) (by omega)]; exact c12 c hc
      · rw [f2 _ _ (by omega) (by omega) (by omega)]; exact c21
      · rw [f2 _ _ (by omega) (by omega) (by omega), f2 _ _ (by omega) (by omega) (by omega), f2 _ _ (by omega) (by omega) (by omega), f2 _ _ (by omega) (by omega) (by omega)]; exact c22 c hc
    obtain ⟨A7, M8, L8, F, d, g, own, bd, si, p, e, ec, tc, fl, x1, x2, x3, x4, x5, x6, x7, x8⟩ := st_join (fu := fu) (fX19_system_b127 fu) (fun M25 L26 => fX19_system_b128 fu 1 M25 L26) hfu pr3 ⟨by rw [fA3 _ _ (by omega)]; exact jz.1, jz.2⟩ j0 c0 hno
    rw [x1, mb2_s, x2]
    obtain ⟨n1, n2, n3⟩ := car_hi x3
    have w12 : A7 1 12 = 0 := by rw [x6 _ _ (by omega) (by omega) (by omega) (by omega) (by omega) (by omega), fA3 _ _ (by omega)]; exact g12
    refine ⟨0, 0, A7, mset M8 732 4 1, Lc2, L8, ?_, ?_, by omega, ?_, ⟨⟨k + 1, by omega, ?_, ?_⟩, ⟨n, tx, TxC_f q3 (fun a y u => ?_), TxM_f q4 (fun a y u => ?_)⟩, ⟨RCd_fr n1 (fun _ _ _ _ => rfl) (fun a y u => mset_n (by omega)), n2, by rw [mset_n (by omega)]; exact n3, PrB_f x5 (fun a u1 u2 => mset_n (by omega)) (fun _ _ _ _ _ => rfl) (fun _ _ _ _ _ => rfl), fun q hq y hy => by rw [mset_n (by omega)]; exact x4 q hq y hy⟩, ?_, Or.inr ⟨?_, mset_s, C, S, F, W, R, X, T, 0, 0, d, tu, g, own, bd, si, p, _, e, ec, tc, fl, CAR_f x3 (fun _ _ _ => rfl) (fun a y u => mset_n (by omega)), by rw [x6 _ _ (by omega) (by omega) (by omega) (by omega) (by omega) (by omega)]; exact pr3.2.2.1.1, fun c _ _ => x8 c⟩⟩, fun _ => ?_⟩
    · unfold fX11_system_b76
      rw [w12]
    · unfold fX19_system_b128
      rw [mzz_1, mlet_e, mset_s, if_neg (show ¬ (1 : Int32) = 0 by decide)]
    · rw [mset_n (by omega), x7 _ _ (by omega) (by omega)]; exact s0
    · rw [x6 _ _ (by omega) (by omega) (by omega) (by omega) (by omega) (by omega), fA3 _ _ (by omega)]; exact s04
    · rw [mset_n (by omega), x7 _ _ (by omega) (by omega)]; exact s3
    · rw [x6 _ _ (by omega) (by omega) (by omega) (by omega) (by omega) (by omega), fA3 _ _ (by omega)]
    · rw [mset_n (by omega), x7 _ _ (by omega) (by omega)]
    · rw [x6 _ _ (by omega) (by omega) (by omega) (by omega) (by omega) (by omega), fA3 _ _ (by omega), mset_n (by omega), x7 _ _ (by omega) (by omega), s5, hz _ _ _ _ ((show fX8_readText_h19 fu fu (0, 0, A1, L1) = fX8_readText_b87 fu A2 Lc2 from q1).trans b1) g12]
      exact a13
    · rw [x6 _ _ (by omega) (by omega) (by omega) (by omega) (by omega) (by omega)]; exact a05
    · intro _ X' x h33 hX' hx
      have e33 : M2 732 33 = sI X := pr3.2.2.1.2.1
      have hX12 : X ≤ 12 := pr3.2.2.1.2.2.1
      rw [mset_n (by omega), x7 _ _ (by omega) (by omega), e33, sI_eq (by omega) (by omega)] at h33
      subst h33
      obtain ⟨c, va, D, xx, _, hc, _, _, hns, _⟩ := (pr3.2.2.1.2.2.2.1 x hx).2.2.2.2.2.2.2.2
      obtain ⟨_, _, _, _, hN⟩ := pr3.2.2.2.2.2.2.2.2.1
      have n754 : M2 754 x = sI (c 0 0) := by rw [hns]; exact (hN x hx).1.1
      obtain ⟨va', ⟨w, p2⟩, nw, hW, ⟨hRc, _⟩, hRm, _⟩ := x3.2.2.2.2.2.2.1 x hx
      have a7 : A7 (293 + 36 * x) 7 = sI (w.1.1 0 0) := hRc.1.1
      rw [x6 _ _ (by omega) (by omega) (by omega) (by omega) (by omega) (by omega), show A3 (293 + 36 * x) 7 = sI (c 0 0) from hc.1.1] at a7
      have m2 : M8 (964 + 53 * x) 2 = sI (w.1.1 0 0) := hRm.1.1
      rw [mset_n (by omega), mset_n (by omega), x7 _ _ (by omega) (by omega), n754, m2, a7]
/-! RUN -/
theorem CAR_g {A A' M M' : mwM} {Lc Lm : mwL} {C S F W R X T t E : Nat} {d : Nat → Nat → Nat} {tu : Nat → Bool} {g : Nat → Nat → Nat} {own Sb bd : Nat → Nat} {si : Nat → Bool} {p : PB} {o : Nat → Nat → Nat} {e ec tc fl : Nat → Nat} (h : CAR A M Lc Lm C S F W R X T t E d tu g own Sb bd si p o e ec tc fl) (hA : ∀ a y, 3 ≤ a → A' a y = A a y) (hM : ∀ a y, ¬ (a = 732 ∧ y ≤ 12) → ¬ (a = 821 ∧ y = 0) → M' a y = M a y) : CAR A' M' Lc Lm C S F W R X T t E d tu g own Sb bd si p o e ec tc fl := by
  obtain ⟨hTk, hTr, hp, hBu, hSl, hCo, hCx, h17, h924, h0, h4, hE, hbd⟩ := h
  obtain ⟨kS, kO, kR, kQ, kW, kT, kC, kK, kN, k1, k2, k16, k83, kt⟩ := id hTk
  refine ⟨TkB_g hTk (FrS_f kS (fun a y u => hA a y (by omega)) (fun a y u => hM a y (by omega) (by omega))) (fun x hx => QdR_f (kQ x hx) (fun a y u => hA a y (by omega)) (fun a y u => hM a y (by omega) (by omega)) (fun _ => rfl) (fun _ => rfl)) (WtR_f kW (fun a y u => hA a y (by omega)) (fun a y u => hM a y (by omega) (by omega)) (fun _ => rfl)) (RTr_fr kT (fun a y u1 u2 => hA a y (by omega)) (fun a y u1 u2 _ => hM a y (by omega) (by omega))) (RCd_fr kC (fun a y u1 u2 => hA a y (by omega)) (fun a y u => hM a y (by omega) (by omega))) (fun a y u => hA a y (by omega)) (fun a y u => hM a y (by omega) (by omega)) (fun _ => rfl) (fun _ _ _ => rfl) (by rw [hA _ _ (by omega)]; exact k16) (by rw [hM _ _ (by omega) (by omega)]; exact k83) kt, TrB_f hTr (fun a y u => hA a y (by omega)) (fun a y u => hM a y (by omega) (by omega)) (fun _ _ _ _ => rfl), hp, BusE_fr hBu (fun a y u1 u2 => hA a y (by omega)) (fun a y u1 u2 _ => hM a y (by omega) (by omega)), SlW_f hSl (fun a y u => hA a y (by omega)) (fun a y u => hM a y (by omega) (by omega)), RCo_w hCo (fun a y u1 u2 => hA a y (by omega)) (fun a y u1 u2 => hM a y (by omega) (by omega)) (fun _ _ _ _ => rfl), fun x hx => CxR_f (hCx x hx) (Nat.le_refl _) (fun a y u1 u2 u3 => hA a y (by omega)) (fun a y u1 u2 u3 => hM a y (by omega) (by omega)) (hM _ _ (by omega) (by omega)) (fun _ _ _ => rfl) (by
    obtain ⟨_, _, _, _, _, q⟩ := kQ x hx
    exact q), fun i hi => by rw [hA _ _ (by omega), hM _ _ (by omega) (by omega)]; exact h17 i hi, fun k hk => by rw [hM _ _ (by omega) (by omega)]; exact h924 k hk, by rw [hA _ _ (by omega), hM _ _ (by omega) (by omega)]; exact h0, by rw [hA _ _ (by omega), hM _ _ (by omega) (by omega)]; exact h4, hE, hbd⟩
/-- between calls, with a car that has run t microseconds -/
def HC (A M : mwM) (Lc Lm : mwL) (Sb : Nat → Nat) (t : Nat) : Prop := (∃ k, k ≤ 16 ∧ A 0 4 = sI k ∧ M 732 3 = sI k) ∧ (∃ n tx, TxC A n tx ∧ TxM M n tx) ∧ (PrB M Lc Lm ∧ ∀ q, q < 12 → ∀ y, y ≤ 40 → M (941 + 53 * q + 8) y = 0) ∧ A 1 13 = M 732 5 ∧ (A 0 5 = 1 ∧ M 732 4 = 1) ∧ ∃ C S F W R X T E d tu g own bd si p o e ec tc fl, CAR A M Lc Lm C S F W R X T t E d tu g own Sb bd si p o e ec tc fl ∧ A 3 14 = sI X ∧ ∀ c, C ≤ c → c < 6 → si c = false
theorem hc_hs {A M : mwM} {Lc Lm : mwL} {Sb : Nat → Nat} {t : Nat} (h : HC A M Lc Lm Sb t) : HS A M Lc Lm Sb := by
  obtain ⟨h1, h2, ⟨h3, h4⟩, h5, ⟨h6, h7⟩, C, S, F, W, R, X, T, E, d, tu, g, own, bd, si, p, o, e, ec, tc, fl, c, c4, c5⟩ := h
  obtain ⟨n1, n2, n3⟩ := car_hi c
  exact ⟨h1, h2, ⟨n1, n2, n3, h3, h4⟩, h5, Or.inr ⟨h6, h7, C, S, F, W, R, X, T, t, E, d, tu, g, own, bd, si, p, o, e, ec, tc, fl, c, c4, c5⟩⟩
theorem pr_keep {A' M M' : mwM} {Lc Lc' Lm Lm' : mwL} {C S F W R X T t E : Nat} {d : Nat → Nat → Nat} {tu : Nat → Bool} {g : Nat → Nat → Nat} {own Sb bd : Nat → Nat} {si : Nat → Bool} {p : PB} {o : Nat → Nat → Nat} {e ec tc fl : Nat → Nat} (hB : PrB M Lc Lm) (h : CAR A' M' Lc' Lm' C S F W R X T t E d tu g own Sb bd si p o e ec tc fl) (kM : kpM X M M') (kC : kpC X Lc Lc') (kL : kpL X Lm Lm') : PrB M' Lc' Lm' := by
  intro x hx
  by_cases c : x < X
  · obtain ⟨hTk, _, _, _, _, _, hCx, _⟩ := h
    obtain ⟨va, w, nw, v1, v2, v3, _⟩ := hCx x c
    obtain ⟨⟨_, p1, p2, p3, _⟩, _⟩ := v1.1
    obtain ⟨⟨_, r1⟩, _⟩ := v3
    obtain ⟨r4, r5, r6⟩ := r1 0 (by omega)
    rw [p1] at r4
    rw [p2] at r5
    rw [p3] at r6
    obtain ⟨_, _, _, _, _, q⟩ := hTk.2.2.2.1 x c
    exact ⟨r5, r4, r6, fun y _ => by rw [q]⟩
  · obtain ⟨b1, b2, b3, b4⟩ := hB x hx
    rw [kM _ _ (by omega), kM _ _ (by omega), kM _ _ (by omega)]
    exact ⟨b1, b2, b3, fun y hy => by rw [kC _ _ (by omega) (by omega) hy, kL _ _ (by omega) (by omega) hy]; exact b4 y hy⟩
theorem hc_step {fu t : Nat} {A M : mwM} {Lc Lm : mwL} {Sb : Nat → Nat} (hfu : 5000 ≤ fu) (ht : t < 20000) (h : HC A M Lc Lm Sb t) : ∃ A' M' Lc' Lm', DX1_passMicrosecond fu A Lc = some (A', Lc') ∧ DX19_microsecond fu M Lm = some (M', Lm') ∧ M' 732 0 = M 732 0 ∧ HC A' M' Lc' Lm' Sb (t + 1) := by
  obtain ⟨⟨k, k1, k2, k3⟩, ⟨n, tx, t1, t2⟩, ⟨h3, h4⟩, h5, ⟨h6, h7⟩, C, S, F, W, R, X, T, E, d, tu, g, own, bd, si, p, o, e, ec, tc, fl, c, c4, c5⟩ := h
  obtain ⟨A', M', Lc', Lm', E', bd', p', o', e', ec', tc', x1, x2, x3, x4, x5, x6, x7⟩ := st_second hfu ht c
  exact ⟨A', M', Lc', Lm', x1, x2, x4 _ _ (by omega), ⟨k, k1, by rw [x7 _ _ (by omega)]; exact k2, by rw [x4 _ _ (by omega)]; exact k3⟩, ⟨n, tx, TxC_f t1 (fun a y u => x7 a y (by omega)), TxM_f t2 (fun a y u => x4 a y (by omega))⟩, ⟨pr_keep h3 x3 x4 x5 x6, fun q hq y hy => by rw [x4 _ _ (by omega)]; exact h4 q hq y hy⟩, by rw [x7 _ _ (by omega), x4 _ _ (by omega)]; exact h5, ⟨by rw [x7 _ _ (by omega)]; exact h6, by rw [x4 _ _ (by omega)]; exact h7⟩, C, S, F, W, R, X, T, E', d, tu, g, own, bd', si, p', o', e', ec', tc', fl, x3, by rw [x7 _ _ (by omega)]; exact c4, c5⟩
theorem car_done {A M : mwM} {Lc Lm : mwL} {Sb : Nat → Nat} {t : Nat} (h : HC A M Lc Lm Sb t) : A 20 11 = M 821 11 ∧ A 3 16 = sI t ∧ M 732 83 = sI t ∧ t ≤ 20000 := by
  obtain ⟨_, _, _, _, _, C, S, F, W, R, X, T, E, d, tu, g, own, bd, si, p, o, e, ec, tc, fl, ⟨hTk, _, _, ⟨_, _, _, _, _, _, hB⟩, _⟩, _⟩ := h
  have := hB.1.2.2.2.2.2.2.2.1
  exact ⟨by rw [this.1, this.2], hTk.2.2.2.2.2.2.2.2.2.2.2.1, hTk.2.2.2.2.2.2.2.2.2.2.2.2.1, hTk.2.2.2.2.2.2.2.2.2.2.2.2.2⟩
theorem m_done0 {fu : Nat} {M : mwM} {L : mwL} : DX12_done fu (-1) 0 M L = some (M 821 11, mset M 821 0 0, L) := by
  unfold DX12_done
  rw [mlet_e, if_pos (show (-1 : Int32) = -1 from rfl), if_pos (show (0 : Int32) = 0 from rfl), mset_n (by omega)]
theorem HC_821 {A M : mwM} {Lc Lm : mwL} {Sb : Nat → Nat} {t : Nat} (h : HC A M Lc Lm Sb t) : HC A (mset M 821 0 0) Lc Lm Sb t := by
  obtain ⟨⟨k, k1, k2, k3⟩, ⟨n, tx, t1, t2⟩, ⟨h3, h4⟩, h5, ⟨h6, h7⟩, C, S, F, W, R, X, T, E, d, tu, g, own, bd, si, p, o, e, ec, tc, fl, c, c4, c5⟩ := h
  exact ⟨⟨k, k1, k2, by rw [mset_n (by omega)]; exact k3⟩, ⟨n, tx, t1, TxM_f t2 (fun a y u => mset_n (by omega))⟩, ⟨PrB_f h3 (fun a u1 u2 => mset_n (by omega)) (fun _ _ _ _ _ => rfl) (fun _ _ _ _ _ => rfl), fun q hq y hy => by rw [mset_n (by omega)]; exact h4 q hq y hy⟩, by rw [mset_n (by omega)]; exact h5, ⟨h6, by rw [mset_n (by omega)]; exact h7⟩, C, S, F, W, R, X, T, E, d, tu, g, own, bd, si, p, o, e, ec, tc, fl, CAR_g c (fun _ _ _ => rfl) (fun a y u1 u2 => mset_n (by omega)), c4, c5⟩
theorem st_runL {fu N : Nat} {x : Int32} {Sb : Nat → Nat} (hfu : 30000 ≤ fu) (hN : N ≤ 20000) : ∀ (m i t q q' : Nat) (A M : mwM) (Lc Lm : mwL), i + m = N → m < q → m < q' → t + m ≤ 20000 → HC A M Lc Lm Sb t → ∃ r A' M' Lc' Lm', fX11_run_h59 fu (sI N) q (x, sI i, A, Lc) = some ((0, r), A', Lc') ∧ fX19_run_h57 fu (sI N) q' (x, sI i, M, Lm) = some (r, M', Lm') ∧ M' 732 0 = M 732 0 ∧ HC A' M' Lc' Lm' Sb (t + m) := by
  intro m
  induction m with
  | zero =>
    intro i t q q' A M Lc Lm hi hq hq' ht h
    obtain ⟨q, rfl⟩ : ∃ y, q = y + 1 := ⟨q - 1, by omega⟩
    obtain ⟨q', rfl⟩ : ∃ y, q' = y + 1 := ⟨q' - 1, by omega⟩
    refine ⟨A 20 11 - x, A, mset M 821 0 0, Lc, Lm, ?_, ?_, mset_n (by omega), HC_821 h⟩
    · show fX11_run_i59 fu (sI N) (fX11_run_h59 fu (sI N) q) x (sI i) A Lc = _
      unfold fX11_run_i59
      rw [if_pos (show sI N ≤ sI i by rw [sI_le (by omega) (by omega)]; omega)]
    · show fX19_run_i57 fu (sI N) (fX19_run_h57 fu (sI N) q') x (sI i) M Lm = _
      unfold fX19_run_i57
      rw [if_pos (show sI N ≤ sI i by rw [sI_le (by omega) (by omega)]; omega), m_done0, mb3_s, (car_done h).1]
  | succ m ih =>
    intro i t q q' A M Lc Lm hi hq hq' ht h
    obtain ⟨q, rfl⟩ : ∃ y, q = y + 1 := ⟨q - 1, by omega⟩
    obtain ⟨q', rfl⟩ : ∃ y, q' = y + 1 := ⟨q' - 1, by omega⟩
    obtain ⟨A1, M1, Lc1, Lm1, e1, e2, e0, e3⟩ := hc_step (fu := fu) (by omega) (by omega) h
    obtain ⟨r, A', M', Lc', Lm', g1, g2, g3, g4⟩ := ih (i + 1) (t + 1) q q' A1 M1 Lc1 Lm1 (by omega) (by omega) (by omega) (by omega) e3
    refine ⟨r, A', M', Lc', Lm', ?_, ?_, ?_, by rw [show t + (m + 1) = t + 1 + m by omega]; exact g4⟩
    · show fX11_run_i59 fu (sI N) (fX11_run_h59 fu (sI N) q) x (sI i) A Lc = _
      unfold fX11_run_i59
      rw [if_neg (show ¬ sI N ≤ sI i by rw [sI_le (by omega) (by omega)]; omega), e1, mb2_s, mlet_e, sI_1, g1]
    · show fX19_run_i57 fu (sI N) (fX19_run_h57 fu (sI N) q') x (sI i) M Lm = _
      unfold fX19_run_i57
      rw [if_neg (show ¬ sI N ≤ sI i by rw [sI_le (by omega) (by omega)]; omega), e2, mb2_s, mlet_e, sI_1, g2]
    · rw [g3]
      exact e0
theorem nat_le {a : Int32} {m : Nat} (h0 : 0 ≤ a) (h : a ≤ sI m) (hm : m < 2000000000) : ∃ N, N ≤ m ∧ a = sI N := by
  have h0' : 0 ≤ a.toInt := Int32.le_iff_toInt_le.mp h0
  refine ⟨nn a, ?_, sI_of h0'⟩
  have h' := Int32.le_iff_toInt_le.mp h
  rw [sI_toInt hm] at h'
  have : ((nn a : Nat) : Int) = a.toInt := Int.toNat_of_nonneg h0'
  omega
theorem st_run {fu : Nat} {a1 : Int32} {A M : mwM} {Lc Lm : mwL} {Sb : Nat → Nat} (hfu : 30000 ≤ fu) (h : HS A M Lc Lm Sb) : ∃ (w : Nat) (r : Int32) (A' M' : mwM) (Lc' Lm' : mwL), DX11_run fu a1 A Lc = some ((w, r), A', Lc') ∧ DX19_run fu a1 M Lm = some (r, M', Lm') ∧ w ≤ 2 ∧ M' 732 0 = sI (if w = 0 then 0 else 3 - w) ∧ HS A' M' Lc' Lm' Sb := by
  unfold DX11_run DX19_run fX11_run_b36 fX19_run_b28 fX19_run_b33
  by_cases c0 : 0 ≤ a1
  rotate_left
  · rw [if_neg c0, if_neg c0, mlet_e, mset_s, if_neg (show ¬ (1 : Int32) ≤ 0 by decide)]
    exact ⟨2, 0, A, _, Lc, Lm, rfl, rfl, by omega, mset_s, HS_0 h⟩
  rw [if_pos c0, if_pos c0]
  obtain ⟨h1, h2, ⟨i1, i2, i3, i4, i5⟩, h5, hc⟩ := id h
  have bad : ∃ (w : Nat) (r : Int32) (A' M' : mwM) (Lc' Lm' : mwL), some (((1 : Nat), (0 : Int32)), A, Lc) = some ((w, r), A', Lc') ∧ mlet (mset M 732 0 2) (fun M1 => (if (M1 732 0) ≤ 0 then mb3 (DX12_done fu ((-1)) 0 M1 Lm) (fun r5 M3 L4 => fX19_run_h57 fu a1 fu (r5, 0, M3, L4)) else some (0, M1, Lm))) = some (r, M', Lm') ∧ w ≤ 2 ∧ M' 732 0 = sI (if w = 0 then 0 else 3 - w) ∧ HS A' M' Lc' Lm' Sb := by
    rw [mlet_e, mset_s, if_neg (show ¬ (2 : Int32) ≤ 0 by decide)]
    exact ⟨1, 0, A, _, Lc, Lm, rfl, rfl, by omega, mset_s, HS_0 h⟩
  rcases hc with ⟨c1, c2⟩ | ⟨c1, c2, C, S, F, W, R, X, T, t, E, d, tu, g, own, bd, si, p, o, e, ec, tc, fl, c3, c4, c5⟩
  · rw [if_pos c1, if_pos c2]
    exact bad
  have hHC : HC A M Lc Lm Sb t := ⟨h1, h2, ⟨i4, i5⟩, h5, ⟨c1, c2⟩, C, S, F, W, R, X, T, E, d, tu, g, own, bd, si, p, o, e, ec, tc, fl, c3, c4, c5⟩
  obtain ⟨d1, d2, d3, d4⟩ := car_done hHC
  rw [if_neg (show ¬ A 0 5 = 0 by rw [c1]; decide), if_neg (show ¬ M 732 4 = 0 by rw [c2]; decide), d2, d3, show (20000 : Int32) - sI t = sI (20000 - t) by rw [show (20000 : Int32) = sI 20000 from rfl, sI_sub d4]]
  by_cases cN : a1 ≤ sI (20000 - t)
  rotate_left
  · rw [if_neg cN, if_neg cN]
    exact bad
  obtain ⟨N, hN, rfl⟩ := nat_le c0 cN (by omega)
  rw [if_pos cN, if_pos cN, mlet_e, mlet_e, mset_s, if_pos (show (0 : Int32) ≤ 0 by decide), m_done0, mb3_s, mset_n (show ¬ (821 = 732 ∧ 11 = 0) by omega), ← d1]
  have hH1 : HC A (mset (mset M 732 0 0) 821 0 0) Lc Lm Sb t := by
    refine HC_821 ⟨?_, ?_, ⟨PrB_f i4 (fun a u1 u2 => mset_n (by omega)) (fun _ _ _ _ _ => rfl) (fun _ _ _ _ _ => rfl), fun q hq y hy => by rw [mset_n (by omega)]; exact i5 q hq y hy⟩, by rw [mset_n (by omega)]; exact h5, ⟨c1, by rw [mset_n (by omega)]; exact c2⟩, C, S, F, W, R, X, T, E, d, tu, g, own, bd, si, p, o, e, ec, tc, fl, CAR_f c3 (fun _ _ _ => rfl) (fun a y u => mset_n (by omega)), c4, c5⟩
    · obtain ⟨k, k1, k2, k3⟩ := h1
      exact ⟨k, k1, k2, by rw [mset_n (by omega)]; exact k3⟩
    · obtain ⟨n, tx, t1, t2⟩ := h2
      exact ⟨n, tx, t1, TxM_f t2 (fun a y u => mset_n (by omega))⟩
  obtain ⟨r, A', M', Lc', Lm', g1, g2, g3, g4⟩ := st_runL (fu := fu) (N := N) (x := A 20 11) hfu (by omega) N 0 t fu fu A (mset (mset M 732 0 0) 821 0 0) Lc Lm (by omega) (by omega) (by omega) (by omega) hH1
  refine ⟨0, r, A', M', Lc', Lm', g1, g2, by omega, ?_, hc_hs g4⟩
  rw [g3, mset_n (by omega), mset_s]
  rfl
/-! CALLS: place, cut, count -/
theorem HS_w {A A' M M' : mwM} {Lc Lm : mwL} {Sb : Nat → Nat} (h : HS A M Lc Lm Sb) (hA : ∀ a y, ¬ (a = 1 ∧ y = 4) → A' a y = A a y) (hM : ∀ a y, ¬ (a = 732 ∧ (y = 0 ∨ y = 2)) → M' a y = M a y) (ht : ∃ n tx, TxC A' n tx ∧ TxM M' n tx) : HS A' M' Lc Lm Sb := by
  obtain ⟨⟨k, k1, k2, k3⟩, _, ⟨i1, i2, i3, i4, i5⟩, h5, hc⟩ := h
  refine ⟨⟨k, k1, by rw [hA _ _ (by omega)]; exact k2, by rw [hM _ _ (by omega)]; exact k3⟩, ht, ⟨RCd_fr i1 (fun a y u1 u2 => hA a y (by omega)) (fun a y u => hM a y (by omega)), OcA_f i2 (fun a y u1 u2 => hA a y (by omega)), by rw [hM _ _ (by omega)]; exact i3, PrB_f i4 (fun a u1 u2 => hM a 0 (by omega)) (fun _ _ _ _ _ => rfl) (fun _ _ _ _ _ => rfl), fun a ha y hy => by rw [hM _ _ (by omega)]; exact i5 a ha y hy⟩, by rw [hA _ _ (by omega), hM _ _ (by omega)]; exact h5, ?_⟩
  rcases hc with ⟨c1, c2⟩ | ⟨c1, c2, C, S, F, W, R, X, T, t, E, d, tu, g, own, bd, si, p, o, e, ec, tc, fl, c3, c4, c5⟩
  · exact Or.inl ⟨by rw [hA _ _ (by omega)]; exact c1, by rw [hM _ _ (by omega)]; exact c2⟩
  · exact Or.inr ⟨by rw [hA _ _ (by omega)]; exact c1, by rw [hM _ _ (by omega)]; exact c2, C, S, F, W, R, X, T, t, E, d, tu, g, own, bd, si, p, o, e, ec, tc, fl, CAR_f c3 (fun a y u => hA a y (by omega)) (fun a y u => hM a y (by omega)), by rw [hA _ _ (by omega)]; exact c4, c5⟩
theorem st_place {fu : Nat} {A M : mwM} {Lc Lm : mwL} {Sb : Nat → Nat} (h : HS A M Lc Lm Sb) : ∃ r, DX11_place fu A Lc = some (r, A, Lc) ∧ DX19_place fu M Lm = some (r, mset M 732 0 0, Lm) ∧ HS A (mset M 732 0 0) Lc Lm Sb := by
  refine ⟨A 1 13, rfl, ?_, HS_0 h⟩
  unfold DX19_place
  rw [mlet_e, mset_n (by omega), h.2.2.2.1]
/-- how a call ends on both sides; mp: what the class throws, as the reference numbers it -/
def CaQ (mp : Nat → Nat) (Sb : Nat → Nat) (P : Option ((Nat × Int32) × mwM × mwL)) (Q : Option (Int32 × mwM × mwL)) : Prop := ∃ (w : Nat) (r : Int32) (A' M' : mwM) (Lc' Lm' : mwL), P = some ((w, r), A', Lc') ∧ Q = some (r, M', Lm') ∧ M' 732 0 = sI (mp w) ∧ HS A' M' Lc' Lm' Sb
abbrev mp21 (w : Nat) : Nat := if w = 0 then 0 else 3 - w
theorem st_lcut {fu : Nat} {a1 : Int32} {A M : mwM} {Lc Lm : mwL} {Sb : Nat → Nat} (h : HS A M Lc Lm Sb) : CaQ mp21 Sb (DX11_cut fu a1 A Lc) (DX19_cut fu a1 M Lm) := by
  obtain ⟨n, tx, t1, t2⟩ := h.2.1
  unfold DX11_cut DX19_cut fX11_cut_b15 fX19_cut_b13 fX19_cut_b18
  have bad : CaQ mp21 Sb (some ((2, 0), A, Lc)) (mlet (mset M 732 0 1) (fun M1 => (if (M1 732 0) ≤ 0 then mlet (mset M1 732 2 a1) (fun M3 => some (a1, M3, Lm)) else some (0, M1, Lm)))) := by
    rw [mlet_e, mset_s, if_neg (show ¬ (1 : Int32) ≤ 0 by decide)]
    exact ⟨2, 0, A, _, Lc, Lm, rfl, rfl, mset_s, HS_0 h⟩
  by_cases c0 : a1 < 0
  · rw [if_pos c0, if_pos c0]
    exact bad
  rw [if_neg c0, if_neg c0, t1.1, t2.1]
  by_cases c1 : a1 ≤ sI n
  rotate_left
  · rw [if_neg c1, if_neg c1]
    exact bad
  have hn := t1.2.1
  obtain ⟨m, hm, rfl⟩ := nat_le (Int32.not_lt.mp c0) c1 (by omega)
  rw [if_pos c1, if_pos c1, mlet_e, mlet_e, mset_s, if_pos (show (0 : Int32) ≤ 0 by decide), mlet_e]
  refine ⟨0, sI m, _, _, Lc, Lm, rfl, rfl, by rw [mset_n (by omega), mset_s]; rfl, HS_w h (fun a y u => mset_n (by omega)) (fun a y u => by rw [mset_n (by omega), mset_n (by omega)]) ⟨m, tx, ⟨mset_s, by omega, fun j hj => ?_⟩, ⟨mset_s, by omega, fun j hj => ?_⟩⟩⟩
  · rw [mset_n (by omega)]
    exact t1.2.2 j (by omega)
  · rw [mset_n (by omega), mset_n (by omega)]
    exact t2.2.2 j (by omega)
/-! CALLS: count -/
theorem car_counts {A M : mwM} {Lc Lm : mwL} {C S F W R X T t E : Nat} {d : Nat → Nat → Nat} {tu : Nat → Bool} {g : Nat → Nat → Nat} {own Sb bd : Nat → Nat} {si : Nat → Bool} {p : PB} {o : Nat → Nat → Nat} {e ec tc fl : Nat → Nat} (h : CAR A M Lc Lm C S F W R X T t E d tu g own Sb bd si p o e ec tc fl) (h14 : A 3 14 = sI X) : A 3 13 = M 732 19 ∧ A 5 3 = M 732 24 ∧ A 3 14 = M 732 33 ∧ A 61 10 = M 732 45 ∧ A 61 11 = M 732 67 ∧ A 3 15 = M 732 55 ∧ A 139 2 = M 732 62 := by
  obtain ⟨hTk, hTr, hp, hBu, hSl, hCo, _⟩ := h
  obtain ⟨kS, kO, kR, kQ, kW, _⟩ := id hTk
  obtain ⟨w1, w2, w3, w4, w5, w6, w7, w8, w9, w10, w11, w12, w13⟩ := id hSl
  obtain ⟨tn, cn, U, cut, hRC, _⟩ := hCo
  obtain ⟨_, _, _, _, r5, _⟩ := hRC
  exact ⟨by rw [w9, w8], by rw [r5, w11], by rw [h14, kO.2.1], by rw [kS.1, kS.2.1], by rw [kS.2.2.2.1, kS.2.2.2.2.1], by rw [kR.1, kR.2.1], by rw [kW.1, kW.2.1]⟩
theorem st_count {fu : Nat} {a1 : Int32} {A M : mwM} {Lc Lm : mwL} {Sb : Nat → Nat} (h : HS A M Lc Lm Sb) : CaQ mp21 Sb (DX11_count fu a1 A Lc) (DX19_count fu a1 M Lm) := by
  unfold DX11_count DX19_count fX11_count_b10 fX19_count_b11 fX19_count_b27 fX19_count_b110 fX19_count_b81 fX19_count_b59
  simp only [mlet_e, mset_s]
  have neg1 : ¬ (1 : Int32) ≤ 0 := by decide
  have neg2 : ¬ (2 : Int32) ≤ 0 := by decide
  rw [if_neg neg1, if_neg neg2, if_pos (show (0 : Int32) ≤ 0 by decide)]
  have bad : CaQ mp21 Sb (some ((2, 0), A, Lc)) (some (0, mset M 732 0 1, Lm)) := ⟨2, 0, A, _, Lc, Lm, rfl, rfl, mset_s, HS_0 h⟩
  by_cases c0 : a1 < 0
  · rw [if_pos c0, if_pos c0]
    exact bad
  rw [if_neg c0, if_neg c0]
  by_cases c6 : a1 ≤ 6
  rotate_left
  · rw [if_neg c6, if_neg c6]
    exact bad
  rw [if_pos c6, if_pos c6]
  obtain ⟨i, hi, rfl⟩ := nat_le (m := 6) (Int32.not_lt.mp c0) c6 (by omega)
  rcases h.2.2.2.2 with ⟨c1, c2⟩ | ⟨c1, c2, C, S, F, W, R, X, T, t, E, d, tu, g, own, bd, si, p, o, e, ec, tc, fl, c3, c4, c5⟩
  · rw [if_pos c1, if_pos c2]
    exact ⟨1, 0, A, _, Lc, Lm, rfl, rfl, mset_s, HS_0 h⟩
  rw [if_neg (show ¬ A 0 5 = 0 by rw [c1]; decide), if_neg (show ¬ M 732 4 = 0 by rw [c2]; decide)]
  obtain ⟨q0, q1, q2, q3, q4, q5, q6⟩ := car_counts c3 c4
  have ok : ∀ r : Int32, CaQ mp21 Sb (some ((0, r), A, Lc)) (some (r, mset M 732 0 0, Lm)) := fun r => ⟨0, r, A, _, Lc, Lm, rfl, rfl, mset_s, HS_0 h⟩
  have : i = 0 ∨ i = 1 ∨ i = 2 ∨ i = 3 ∨ i = 4 ∨ i = 5 ∨ i = 6 := by omega
  rcases this with rfl | rfl | rfl | rfl | rfl | rfl | rfl
  · have ec : (if sI 0 = (0 : Int32) then some (((0 : Nat), A 3 13), A, Lc) else if sI 0 = (1 : Int32) then some ((0, A 5 3), A, Lc) else if sI 0 = (2 : Int32) then some ((0, A 3 14), A, Lc) else if sI 0 = (3 : Int32) then some ((0, A 61 10), A, Lc) else if sI 0 = (4 : Int32) then some ((0, A 61 11), A, Lc) else if sI 0 = (5 : Int32) then some ((0, A 3 15), A, Lc) else some ((0, A 139 2), A, Lc)) = some ((0, M 732 19), A, Lc) := by
      rw [if_pos (show sI 0 = (0 : Int32) from rfl), q0]
    rw [ec, if_neg (show ¬ (2 : Int32) ≤ sI 0 by decide), if_pos (show sI 0 = (0 : Int32) from rfl), mset_n (show ¬ (732 = 732 ∧ 19 = 0) by omega)]
    exact ok _
  · have ec : (if sI 1 = (0 : Int32) then some (((0 : Nat), A 3 13), A, Lc) else if sI 1 = (1 : Int32) then some ((0, A 5 3), A, Lc) else if sI 1 = (2 : Int32) then some ((0, A 3 14), A, Lc) else if sI 1 = (3 : Int32) then some ((0, A 61 10), A, Lc) else if sI 1 = (4 : Int32) then some ((0, A 61 11), A, Lc) else if sI 1 = (5 : Int32) then some ((0, A 3 15), A, Lc) else some ((0, A 139 2), A, Lc)) = some ((0, M 732 24), A, Lc) := by
      rw [if_neg (show ¬ sI 1 = (0 : Int32) by decide), if_pos (show sI 1 = (1 : Int32) from rfl), q1]
    rw [ec, if_neg (show ¬ (2 : Int32) ≤ sI 1 by decide), if_neg (show ¬ sI 1 = (0 : Int32) by decide), mset_n (show ¬ (732 = 732 ∧ 24 = 0) by omega)]
    exact ok _
  · have ec : (if sI 2 = (0 : Int32) then some (((0 : Nat), A 3 13), A, Lc) else if sI 2 = (1 : Int32) then some ((0, A 5 3), A, Lc) else if sI 2 = (2 : Int32) then some ((0, A 3 14), A, Lc) else if sI 2 = (3 : Int32) then some ((0, A 61 10), A, Lc) else if sI 2 = (4 : Int32) then some ((0, A 61 11), A, Lc) else if sI 2 = (5 : Int32) then some ((0, A 3 15), A, Lc) else some ((0, A 139 2), A, Lc)) = some ((0, M 732 33), A, Lc) := by
      rw [if_neg (show ¬ sI 2 = (0 : Int32) by decide), if_neg (show ¬ sI 2 = (1 : Int32) by decide), if_pos (show sI 2 = (2 : Int32) from rfl), q2]
    rw [ec, if_pos (show (2 : Int32) ≤ sI 2 by decide), if_neg (show ¬ (4 : Int32) ≤ sI 2 by decide), if_pos (show sI 2 = (2 : Int32) from rfl), mset_n (show ¬ (732 = 732 ∧ 33 = 0) by omega)]
    exact ok _
  · have ec : (if sI 3 = (0 : Int32) then some (((0 : Nat), A 3 13), A, Lc) else if sI 3 = (1 : Int32) then some ((0, A 5 3), A, Lc) else if sI 3 = (2 : Int32) then some ((0, A 3 14), A, Lc) else if sI 3 = (3 : Int32) then some ((0, A 61 10), A, Lc) else if sI 3 = (4 : Int32) then some ((0, A 61 11), A, Lc) else if sI 3 = (5 : Int32) then some ((0, A 3 15), A, Lc) else some ((0, A 139 2), A, Lc)) = some ((0, M 732 45), A, Lc) := by
      rw [if_neg (show ¬ sI 3 = (0 : Int32) by decide), if_neg (show ¬ sI 3 = (1 : Int32) by decide), if_neg (show ¬ sI 3 = (2 : Int32) by decide), if_pos (show sI 3 = (3 : Int32) from rfl), q3]
    rw [ec, if_pos (show (2 : Int32) ≤ sI 3 by decide), if_neg (show ¬ (4 : Int32) ≤ sI 3 by decide), if_neg (show ¬ sI 3 = (2 : Int32) by decide), mset_n (show ¬ (732 = 732 ∧ 45 = 0) by omega)]
    exact ok _
  · have ec : (if sI 4 = (0 : Int32) then some (((0 : Nat), A 3 13), A, Lc) else if sI 4 = (1 : Int32) then some ((0, A 5 3), A, Lc) else if sI 4 = (2 : Int32) then some ((0, A 3 14), A, Lc) else if sI 4 = (3 : Int32) then some ((0, A 61 10), A, Lc) else if sI 4 = (4 : Int32) then some ((0, A 61 11), A, Lc) else if sI 4 = (5 : Int32) then some ((0, A 3 15), A, Lc) else some ((0, A 139 2), A, Lc)) = some ((0, M 732 67), A, Lc) := by
      rw [if_neg (show ¬ sI 4 = (0 : Int32) by decide), if_neg (show ¬ sI 4 = (1 : Int32) by decide), if_neg (show ¬ sI 4 = (2 : Int32) by decide), if_neg (show ¬ sI 4 = (3 : Int32) by decide), if_pos (show sI 4 = (4 : Int32) from rfl), q4]
    rw [ec, if_pos (show (2 : Int32) ≤ sI 4 by decide), if_pos (show (4 : Int32) ≤ sI 4 by decide), if_pos (show sI 4 = (4 : Int32) from rfl), mset_n (show ¬ (732 = 732 ∧ 67 = 0) by omega)]
    exact ok _
  · have ec : (if sI 5 = (0 : Int32) then some (((0 : Nat), A 3 13), A, Lc) else if sI 5 = (1 : Int32) then some ((0, A 5 3), A, Lc) else if sI 5 = (2 : Int32) then some ((0, A 3 14), A, Lc) else if sI 5 = (3 : Int32) then some ((0, A 61 10), A, Lc) else if sI 5 = (4 : Int32) then some ((0, A 61 11), A, Lc) else if sI 5 = (5 : Int32) then some ((0, A 3 15), A, Lc) else some ((0, A 139 2), A, Lc)) = some ((0, M 732 55), A, Lc) := by
      rw [if_neg (show ¬ sI 5 = (0 : Int32) by decide), if_neg (show ¬ sI 5 = (1 : Int32) by decide), if_neg (show ¬ sI 5 = (2 : Int32) by decide), if_neg (show ¬ sI 5 = (3 : Int32) by decide), if_neg (show ¬ sI 5 = (4 : Int32) by decide), if_pos (show sI 5 = (5 : Int32) from rfl), q5]
    rw [ec, if_pos (show (2 : Int32) ≤ sI 5 by decide), if_pos (show (4 : Int32) ≤ sI 5 by decide), if_neg (show ¬ sI 5 = (4 : Int32) by decide), if_pos (show sI 5 = (5 : Int32) from rfl), mset_n (show ¬ (732 = 732 ∧ 55 = 0) by omega)]
    exact ok _
  · have ec : (if sI 6 = (0 : Int32) then some (((0 : Nat), A 3 13), A, Lc) else if sI 6 = (1 : Int32) then some ((0, A 5 3), A, Lc) else if sI 6 = (2 : Int32) then some ((0, A 3 14), A, Lc) else if sI 6 = (3 : Int32) then some ((0, A 61 10), A, Lc) else if sI 6 = (4 : Int32) then some ((0, A 61 11), A, Lc) else if sI 6 = (5 : Int32) then some ((0, A 3 15), A, Lc) else some ((0, A 139 2), A, Lc)) = some ((0, M 732 62), A, Lc) := by
      rw [if_neg (show ¬ sI 6 = (0 : Int32) by decide), if_neg (show ¬ sI 6 = (1 : Int32) by decide), if_neg (show ¬ sI 6 = (2 : Int32) by decide), if_neg (show ¬ sI 6 = (3 : Int32) by decide), if_neg (show ¬ sI 6 = (4 : Int32) by decide), if_neg (show ¬ sI 6 = (5 : Int32) by decide), q6]
    rw [ec, if_pos (show (2 : Int32) ≤ sI 6 by decide), if_pos (show (4 : Int32) ≤ sI 6 by decide), if_neg (show ¬ sI 6 = (4 : Int32) by decide), if_neg (show ¬ sI 6 = (5 : Int32) by decide), mset_n (show ¬ (732 = 732 ∧ 62 = 0) by omega)]
    exact ok _
/-! CALLS: signal, bit -/
abbrev mp32 (w : Nat) : Nat := if w = 3 then 1 else w
theorem nat_lt' {a : Int32} {m : Nat} (h0 : ¬ a < 0) (h : a < sI m) (hm : m < 2000000000) : ∃ N, N < m ∧ a = sI N := by
  have h0' : 0 ≤ a.toInt := Int32.le_iff_toInt_le.mp (Int32.not_lt.mp h0)
  refine ⟨nn a, ?_, sI_of h0'⟩
  have h' := Int32.lt_iff_toInt_lt.mp h
  rw [sI_toInt hm] at h'
  have : ((nn a : Nat) : Int) = a.toInt := Int.toNat_of_nonneg h0'
  omega
theorem st_lsignal {fu : Nat} {a1 a2 : Int32} {A M : mwM} {Lc Lm : mwL} {Sb : Nat → Nat} (h : HS A M Lc Lm Sb) : CaQ mp32 Sb (DX11_signal fu a1 a2 A Lc) (DX19_signal fu a1 a2 M Lm) := by
  unfold DX11_signal DX19_signal fX11_signal_b25 fX11_signal_b75 fX19_signal_b20 fX19_signal_b25 fX19_signal_b56
  simp only [mlet_e, mset_s]
  rw [if_neg (show ¬ (1 : Int32) ≤ 0 by decide), if_pos (show (0 : Int32) ≤ 0 by decide)]
  have bad : CaQ mp32 Sb (some ((3, 0), A, Lc)) (some (0, mset M 732 0 1, Lm)) := ⟨3, 0, A, _, Lc, Lm, rfl, rfl, mset_s, HS_0 h⟩
  rcases h.2.2.2.2 with ⟨c1, c2⟩ | ⟨c1, c2, C, S, F, W, R, X, T, t, E, d, tu, g, own, bd, si, p, o, e, ec, tc, fl, c3, c4, c5⟩
  · rw [if_pos c1, if_pos c2]
    exact bad
  rw [if_neg (show ¬ A 0 5 = 0 by rw [c1]; decide), if_neg (show ¬ M 732 4 = 0 by rw [c2]; decide)]
  obtain ⟨⟨kS, _⟩, _⟩ := id c3
  obtain ⟨s1, s2, s3, _, _, _, _, s8, _⟩ := kS
  rw [s1, s2]
  by_cases c0 : a1 < 0
  · rw [if_pos c0, if_pos c0]
    exact bad
  rw [if_neg c0, if_neg c0]
  by_cases cS : a1 < sI S
  rotate_left
  · rw [if_neg cS, if_neg cS]
    exact bad
  rw [if_pos cS, if_pos cS]
  obtain ⟨s, hs, rfl⟩ := nat_lt' c0 cS (by omega)
  obtain ⟨_, _, _, _, ⟨b1, b2, b3, b4, _⟩, _⟩ := s8 s hs
  have ok : ∀ r : Int32, CaQ mp32 Sb (some ((0, r), A, Lc)) (some (r, mset M 732 0 0, Lm)) := fun r => ⟨0, r, A, _, Lc, Lm, rfl, rfl, mset_s, HS_0 h⟩
  rw [mck_s (show s < 40 by omega) (by omega), mck_s (show s < 40 by omega) (by omega), mck_s (show s < 40 by omega) (by omega), mck_s (show s < 40 by omega) (by omega), sI_nn (by omega), b1, b2, mset_n (by omega), mset_n (by omega), b3, b4, show (8 : Int32) * sI (d 7 s) = sI (8 * d 7 s) from sI_lml]
  by_cases ca : a2 = 0
  · rw [if_pos ca, if_pos ca]
    exact ok _
  · rw [if_neg ca, if_neg ca]
    exact ok _
/-! CALLS: bit, frame -/
theorem HS_821 {A M : mwM} {Lc Lm : mwL} {Sb : Nat → Nat} {v : Int32} (h : HS A M Lc Lm Sb) : HS A (mset M 821 0 v) Lc Lm Sb := by
  obtain ⟨⟨k, k1, k2, k3⟩, ⟨n, tx, t1, t2⟩, ⟨i1, i2, i3, i4, i5⟩, h5, hc⟩ := h
  refine ⟨⟨k, k1, k2, by rw [mset_n (by omega)]; exact k3⟩, ⟨n, tx, t1, TxM_f t2 (fun x y u => mset_n (by omega))⟩, ⟨RCd_fr i1 (fun _ _ _ _ => rfl) (fun a y u => mset_n (by omega)), i2, by rw [mset_n (by omega)]; exact i3, PrB_f i4 (fun a u1 u2 => mset_n (by omega)) (fun _ _ _ _ _ => rfl) (fun _ _ _ _ _ => rfl), fun a ha y hy => by rw [mset_n (by omega)]; exact i5 a ha y hy⟩, by rw [mset_n (by omega)]; exact h5, ?_⟩
  rcases hc with ⟨c1, c2⟩ | ⟨c1, c2, C, S, F, W, R, X, T, t, E, d, tu, g, own, bd, si, p, o, e, ec, tc, fl, c3, c4, c5⟩
  · exact Or.inl ⟨c1, by rw [mset_n (by omega)]; exact c2⟩
  · exact Or.inr ⟨c1, by rw [mset_n (by omega)]; exact c2, C, S, F, W, R, X, T, t, E, d, tu, g, own, bd, si, p, o, e, ec, tc, fl, CAR_g c3 (fun _ _ _ => rfl) (fun a y u1 u2 => mset_n (by omega)), c4, c5⟩
theorem st_lbit {fu : Nat} {a1 : Int32} {A M : mwM} {Lc Lm : mwL} {Sb : Nat → Nat} (h : HS A M Lc Lm Sb) : CaQ mp32 Sb (DX11_bit fu a1 A Lc) (DX19_bit fu a1 M Lm) := by
  unfold DX11_bit DX19_bit fX11_bit_b22 fX19_bit_b20 fX19_bit_b25 fX19_bit_b47
  simp only [mlet_e, mset_s]
  rw [if_neg (show ¬ (1 : Int32) ≤ 0 by decide), if_pos (show (0 : Int32) ≤ 0 by decide)]
  have bad : CaQ mp32 Sb (some ((3, 0), A, Lc)) (some (0, mset M 732 0 1, Lm)) := ⟨3, 0, A, _, Lc, Lm, rfl, rfl, mset_s, HS_0 h⟩
  rcases h.2.2.2.2 with ⟨c1, c2⟩ | ⟨c1, c2, C, S, F, W, R, X, T, t, E, d, tu, g, own, bd, si, p, o, e, ec, tc, fl, c3, c4, c5⟩
  · rw [if_pos c1, if_pos c2]
    exact bad
  rw [if_neg (show ¬ A 0 5 = 0 by rw [c1]; decide), if_neg (show ¬ M 732 4 = 0 by rw [c2]; decide)]
  obtain ⟨hTk, _, _, ⟨_, _, _, _, _, _, hB⟩, _⟩ := id c3
  have k16 := hTk.2.2.2.2.2.2.2.2.2.2.2.1
  have k83 := hTk.2.2.2.2.2.2.2.2.2.2.2.2.1
  have kt := hTk.2.2.2.2.2.2.2.2.2.2.2.2.2
  have h2 : M 821 2 = sI t := hB.1.2.1.2.2
  have h21 := hB.2.2.2.2.2
  rw [k16, k83]
  by_cases c0 : a1 < 0
  · rw [if_pos c0, if_pos c0]
    exact bad
  rw [if_neg c0, if_neg c0]
  by_cases cS : a1 < sI t
  rotate_left
  · rw [if_neg cS, if_neg cS]
    exact bad
  rw [if_pos cS, if_pos cS]
  obtain ⟨i, hi, rfl⟩ := nat_lt' c0 cS (by omega)
  rw [mck_s (show i < 20000 by omega) (by omega), sI_nn (by omega), m_bit12 (t := t) (by rw [mset_n (by omega)]; exact h2) kt hi, mb3_s, mset_n (by omega), h21 i hi]
  exact ⟨0, M 822 i, A, _, Lc, Lm, rfl, rfl, by rw [mset_n (by omega), mset_s]; rfl, HS_821 (HS_0 h)⟩
/-! CALLS: frame -/
theorem st_lframe {fu : Nat} {a1 a2 : Int32} {A M : mwM} {Lc Lm : mwL} {Sb : Nat → Nat} (h : HS A M Lc Lm Sb) : CaQ mp32 Sb (DX11_frame fu a1 a2 A Lc) (DX19_frame fu a1 a2 M Lm) := by
  unfold DX11_frame DX19_frame fX11_frame_b25 fX11_frame_b44 fX19_frame_b20 fX19_frame_b33 fX19_frame_b38 fX19_frame_b111 DX6_identifierOf
  simp only [mlet_e, mset_s]
  rw [if_neg (show ¬ (1 : Int32) ≤ 0 by decide), if_neg (show ¬ (2 : Int32) ≤ 0 by decide), if_pos (show (0 : Int32) ≤ 0 by decide)]
  have bad : CaQ mp32 Sb (some ((3, 0), A, Lc)) (some (0, mset M 732 0 1, Lm)) := ⟨3, 0, A, _, Lc, Lm, rfl, rfl, mset_s, HS_0 h⟩
  have bad2 : CaQ mp32 Sb (some ((2, 0), A, Lc)) (some (0, mset M 732 0 2, Lm)) := ⟨2, 0, A, _, Lc, Lm, rfl, rfl, mset_s, HS_0 h⟩
  rcases h.2.2.2.2 with ⟨c1, c2⟩ | ⟨c1, c2, C, S, F, W, R, X, T, t, E, d, tu, g, own, bd, si, p, o, e, ec, tc, fl, c3, c4, c5⟩
  · rw [if_pos c1, if_pos c2]
    exact bad
  rw [if_neg (show ¬ A 0 5 = 0 by rw [c1]; decide), if_neg (show ¬ M 732 4 = 0 by rw [c2]; decide)]
  obtain ⟨⟨kS, _⟩, _, _, _, hSl, _⟩ := id c3
  obtain ⟨s1, s2, s3, s4, s5, s6, s7, _⟩ := kS
  rw [s4, s5]
  by_cases c0 : a1 < 0
  · rw [if_pos c0, if_pos c0]
    exact bad
  rw [if_neg c0, if_neg c0]
  by_cases cS : a1 < sI F
  rotate_left
  · rw [if_neg cS, if_neg cS]
    exact bad
  rw [if_pos cS, if_pos cS]
  obtain ⟨f, hf, rfl⟩ := nat_lt' c0 cS (by omega)
  by_cases d0 : a2 < 0
  · rw [if_pos d0, if_pos d0]
    exact bad2
  rw [if_neg d0, if_neg d0]
  by_cases d4 : a2 ≤ 4
  rotate_left
  · rw [if_neg d4, if_neg d4]
    exact bad2
  rw [if_pos d4, if_pos d4]
  obtain ⟨i, hi, rfl⟩ := nat_le (m := 4) (Int32.not_lt.mp d0) d4 (by omega)
  obtain ⟨⟨f1, f2, f3, f4, f5, f6, f7, f8, _⟩, g1, g2, g3⟩ := s7 f hf
  obtain ⟨⟨nn', y1, y2, _⟩, _⟩ := hSl.2.1 f hf
  have ok : ∀ r : Int32, CaQ mp32 Sb (some ((0, r), A, Lc)) (some (r, mset M 732 0 0, Lm)) := fun r => ⟨0, r, A, _, Lc, Lm, rfl, rfl, mset_s, HS_0 h⟩
  have m40 : ∀ {β : Type} {x : Option β}, mck (sI f) 40 x = x := mck_s (show f < 40 by omega) (by omega)
  rw [m40, m40, m40, m40, m40, m40, m40, m40, m40, m40, sI_nn (by omega), mb3_s, mset_n (show ¬ (784 = 732 ∧ f = 0) by omega), mset_n (show ¬ (779 = 732 ∧ f = 0) by omega), mset_n (show ¬ (782 = 732 ∧ f = 0) by omega), mset_n (show ¬ (783 = 732 ∧ f = 0) by omega), mset_n (show ¬ (785 = 732 ∧ f = 0) by omega), g1, g3, f1, f2, f3, f4, f7, f8, y1, y2]
  have : i = 0 ∨ i = 1 ∨ i = 2 ∨ i = 3 ∨ i = 4 := by omega
  rcases this with rfl | rfl | rfl | rfl | rfl
  · rw [if_pos (show sI 0 = (0 : Int32) from rfl), if_pos (show sI 0 = (0 : Int32) from rfl)]
    exact ok _
  · rw [if_neg (show ¬ sI 1 = (0 : Int32) by decide), if_pos (show sI 1 = (1 : Int32) from rfl), if_neg (show ¬ sI 1 = (0 : Int32) by decide), if_pos (show sI 1 = (1 : Int32) from rfl)]
    exact ok _
  · rw [if_neg (show ¬ sI 2 = (0 : Int32) by decide), if_neg (show ¬ sI 2 = (1 : Int32) by decide), if_pos (show sI 2 = (2 : Int32) from rfl), if_neg (show ¬ sI 2 = (0 : Int32) by decide), if_neg (show ¬ sI 2 = (1 : Int32) by decide), if_pos (show sI 2 = (2 : Int32) from rfl)]
    exact ok _
  · rw [if_neg (show ¬ sI 3 = (0 : Int32) by decide), if_neg (show ¬ sI 3 = (1 : Int32) by decide), if_neg (show ¬ sI 3 = (2 : Int32) by decide), if_pos (show sI 3 = (3 : Int32) from rfl), if_neg (show ¬ sI 3 = (0 : Int32) by decide), if_neg (show ¬ sI 3 = (1 : Int32) by decide), if_neg (show ¬ sI 3 = (2 : Int32) by decide), if_pos (show sI 3 = (3 : Int32) from rfl)]
    exact ok _
  · rw [if_neg (show ¬ sI 4 = (0 : Int32) by decide), if_neg (show ¬ sI 4 = (1 : Int32) by decide), if_neg (show ¬ sI 4 = (2 : Int32) by decide), if_neg (show ¬ sI 4 = (3 : Int32) by decide), if_neg (show ¬ sI 4 = (0 : Int32) by decide), if_neg (show ¬ sI 4 = (1 : Int32) by decide), if_neg (show ¬ sI 4 = (2 : Int32) by decide), if_neg (show ¬ sI 4 = (3 : Int32) by decide)]
    exact ok _
/-! CALLS: counted -/
theorem st_counted {fu : Nat} {a1 : Int32} {A M : mwM} {Lc Lm : mwL} {Sb : Nat → Nat} (h : HS A M Lc Lm Sb) : CaQ mp21 Sb (DX11_counted fu a1 A Lc) (DX19_counted fu a1 M Lm) := by
  unfold DX11_counted DX19_counted fX11_counted_b9 fX11_counted_b40 fX19_counted_b10 fX19_counted_b15 fX19_counted_b32 fX19_counted_b42
  simp only [mlet_e, mset_s]
  rw [if_pos (show (0 : Int32) < 1 by decide), if_neg (show ¬ (0 : Int32) < 0 by decide), mset_n (show ¬ (732 = 732 ∧ 4 = 0) by omega)]
  have bad : CaQ mp21 Sb (some ((2, 0), A, Lc)) (some (0, mset M 732 0 1, Lm)) := ⟨2, 0, A, _, Lc, Lm, rfl, rfl, mset_s, HS_0 h⟩
  have ok : ∀ r : Int32, CaQ mp21 Sb (some ((0, r), A, Lc)) (some (r, mset M 732 0 0, Lm)) := fun r => ⟨0, r, A, _, Lc, Lm, rfl, rfl, mset_s, HS_0 h⟩
  by_cases c0 : a1 < 0
  · rw [if_pos c0, if_pos c0]
    exact bad
  rw [if_neg c0, if_neg c0]
  by_cases c4 : a1 ≤ 4
  rotate_left
  · rw [if_neg c4, if_neg c4]
    exact bad
  rw [if_pos c4, if_pos c4]
  obtain ⟨i, hi, rfl⟩ := nat_le (m := 4) (Int32.not_lt.mp c0) c4 (by omega)
  rcases h.2.2.2.2 with ⟨c1, c2⟩ | ⟨c1, c2, C, S, F, W, R, X, T, t, E, d, tu, g, own, bd, si, p, o, e, ec, tc, fl, c3, _, _⟩
  · rw [if_pos c1, if_pos c2]
    exact ok 0
  rw [if_neg (show ¬ A 0 5 = 0 by rw [c1]; decide), if_neg (show ¬ M 732 4 = 0 by rw [c2]; decide), mck_s (show i < 5 by omega) (by omega), mck_s (show i < 5 by omega) (by omega), sI_nn (by omega), mset_n (show ¬ (939 = 732 ∧ i = 0) by omega)]
  obtain ⟨hTk, hTr, _, _, _, _, _, _, _, h0, h4, _⟩ := c3
  obtain ⟨_, _, _, _, _, _, _, _, _, k1, k2, _⟩ := hTk
  obtain ⟨_, _, _, _, _, _, _, k3, _⟩ := hTr
  have : A 292 i = M 939 i := by
    have : i = 0 ∨ i = 1 ∨ i = 2 ∨ i = 3 ∨ i = 4 := by omega
    rcases this with rfl | rfl | rfl | rfl | rfl
    · exact h0
    · exact k1
    · exact k2
    · exact k3
    · exact h4
  rw [this]
  exact ok _
/-! CALLS: what may change between calls -/
theorem TkB_e {A A' M M' : mwM} {Lc Lc' Lm Lm' : mwL} {S F W R X t E : Nat} {d : Nat → Nat → Nat} {tu : Nat → Bool} {g : Nat → Nat → Nat} {own Sb bd : Nat → Nat} (h : TkB A M Lc Lm S F W R X t E d tu g own Sb bd) (hT : RTr A' M' W E) (hA : ∀ a y, (a = 3 ∧ (y = 15 ∨ y = 16)) ∨ (61 ≤ a ∧ a ≤ 136) ∨ (a = 139 ∧ y = 2) ∨ (140 ≤ a ∧ a ≤ 144) ∨ (286 ≤ a ∧ a ≤ 291) ∨ (a = 292 ∧ (y = 1 ∨ y = 2)) ∨ (293 ≤ a ∧ a ≤ 724) → A' a y = A a y) (hM : ∀ a y, (a = 732 ∧ (y = 33 ∨ y = 45 ∨ y = 55 ∨ y = 62 ∨ y = 67 ∨ y = 83)) ∨ (734 ≤ a ∧ a ≤ 786) ∨ (a = 854 ∧ (y = 1 ∨ y = 6)) ∨ a = 855 ∨ a = 868 ∨ (a = 939 ∧ (y = 1 ∨ y = 2)) ∨ (941 ≤ a ∧ a < 1577 ∧ (a - 941) % 53 ≤ 14 ∧ ¬ ((a - 941) % 53 = 0 ∧ y = 0)) → M' a y = M a y) (hC : ∀ a y, a < 732 → Lc' a y = Lc a y) (hL : ∀ a y, 732 ≤ a → a < 1577 → Lm' a y = Lm a y) : TkB A' M' Lc' Lm' S F W R X t E d tu g own Sb bd := by
  obtain ⟨kS, kO, kR, kQ, kW, kT, kC, kK, kN, k1, k2, k16, k83, kt⟩ := h
  have hX := kO.1
  refine ⟨FrS_f kS (fun a y u => hA a y (by omega)) (fun a y u => hM a y (by omega)), ChO_f kO (fun x hx => hA _ _ (by omega)) (fun a y u => hM a y (by omega)), RdR_f kR (fun a y u => hA a y (by omega)) (fun a y u => hM a y (by omega)) (fun y => hC _ _ (by omega)) (fun y => hL _ y (by omega) (by omega)), fun x hx => QdR_f (kQ x hx) (fun a y u => hA a y (by omega)) (fun a y u => hM a y (by omega)) (fun y => hC _ _ (by omega)) (fun y => hL _ _ (by omega) (by omega)), WtR_f kW (fun a y u => hA a y (by omega)) (fun a y u => hM a y (by omega)) (fun y => hL _ _ (by omega) (by omega)), hT, RCd_fr kC (fun a y u1 u2 => hA a y (by omega)) (fun a y u => hM a y (by omega)), fun f hf hk => KnC_f (kK f hf hk) ?_ (fun a y u1 u2 => hA a y (by omega)), fun f hf c hc => ?_, by rw [hA _ _ (by omega), hM _ _ (by omega)]; exact k1, by rw [hA _ _ (by omega), hM _ _ (by omega)]; exact k2, by rw [hA _ _ (by omega)]; exact k16, by rw [hM _ _ (by omega)]; exact k83, kt⟩
  · obtain ⟨_, _, _, _, _, _, fF, _⟩ := kS
    have := (fF f hf).1
    unfold FrT at this
    omega
  · obtain ⟨cn, n1, n2, n3⟩ := kN f hf c hc
    exact ⟨cn, n1, by rw [hA _ _ (by omega)]; exact n2, by rw [hL _ _ (by omega) (by omega)]; exact n3⟩
theorem CAR_x {A A' M M' : mwM} {Lc Lc' Lm Lm' : mwL} {C S F W R X T t E : Nat} {d : Nat → Nat → Nat} {tu : Nat → Bool} {g : Nat → Nat → Nat} {own Sb bd : Nat → Nat} {si si' : Nat → Bool} {p p' : PB} {o o' : Nat → Nat → Nat} {e e' ec tc fl fl' : Nat → Nat} (h : CAR A M Lc Lm C S F W R X T t E d tu g own Sb bd si p o e ec tc fl) (hTr : TrB A' M' Lm' C Sb p' o' e') (hp : p'.1 0 3 = t) (hBu : BusE A' M' (C + 1) t ec tc fl') (hT : RTr A' M' W E) (hsi : ∀ c, c < 6 → A' 284 c = bI (si' c) ∧ M' 923 c = bI (si' c)) (hA : ∀ a y, 3 ≤ a → a < 731 → ¬ (a = 3 ∧ (y = 17 ∨ y = 18)) → ¬ (20 ≤ a ∧ a ≤ 60) → ¬ (a = 139 ∧ y ≠ 2) → ¬ (145 ≤ a ∧ a ≤ 284 ∧ a ≠ 283) → ¬ (a = 292 ∧ y = 3) → A' a y = A a y) (hM : ∀ a y, 732 ≤ a → a < 1577 → ¬ ((a = 732 ∧ (y ≤ 12 ∨ (88 ≤ y ∧ y ≤ 110))) ∨ a = 733) → ¬ (821 ≤ a ∧ a ≤ 853) → ¬ (869 ≤ a ∧ a ≤ 923) → ¬ (927 ≤ a ∧ a ≤ 938) → a ≠ 940 → ¬ (a = 939 ∧ y = 3) → ¬ (964 ≤ a ∧ (a - 964) % 53 = 0 ∧ y = 0) → M' a y = M a y) (hC : ∀ a, a < 732 → Lc' a = Lc a) (hL : ∀ a, 732 ≤ a → a < 1577 → Lm' a = Lm a) : CAR A' M' Lc' Lm' C S F W R X T t E d tu g own Sb bd si' p' o' e' ec tc fl' := by
  obtain ⟨hTk, _, _, _, hSl, hCo, hCx, h17, h924, h0, h4, hE, hbd⟩ := h
  have hX := hTk.2.1.1
  have hQ := hTk.2.2.2.1
  have hC' : ∀ a y, a < 732 → Lc' a y = Lc a y := fun a y u => by rw [hC a u]
  have hL' : ∀ a y, 732 ≤ a → a < 1577 → Lm' a y = Lm a y := fun a y u1 u2 => by rw [hL a u1 u2]
  have cA : ∀ a y, (a = 3 ∧ ¬ (y = 17 ∨ y = 18)) ∨ (4 ≤ a ∧ a ≤ 19) ∨ (61 ≤ a ∧ a ≤ 138) ∨ (a = 139 ∧ y = 2) ∨ (140 ≤ a ∧ a ≤ 144) ∨ a = 283 ∨ (285 ≤ a ∧ a ≤ 291) ∨ (a = 292 ∧ y ≠ 3) ∨ (293 ≤ a ∧ a ≤ 724) → A' a y = A a y := fun a y u => hA a y (by omega) (by omega) (by omega) (by omega) (by omega) (by omega) (by omega)
  have cM : ∀ a y, (a = 732 ∧ 13 ≤ y ∧ y ≤ 87) ∨ (734 ≤ a ∧ a ≤ 820) ∨ (854 ≤ a ∧ a ≤ 868) ∨ (924 ≤ a ∧ a ≤ 926) ∨ (a = 939 ∧ y ≠ 3) ∨ (941 ≤ a ∧ a < 1577 ∧ ¬ (964 ≤ a ∧ (a - 964) % 53 = 0 ∧ y = 0)) → M' a y = M a y := fun a y u => hM a y (by omega) (by omega) (by omega) (by omega) (by omega) (by omega) (by omega) (by omega) (by omega)
  refine ⟨TkB_e hTk hT (fun a y u => cA a y (by omega)) (fun a y u => cM a y (by omega)) hC' hL', hTr, hp, hBu, ?_, RCo_w hCo (fun a y u1 u2 => cA a y (by omega)) (fun a y u1 u2 => cM a y (by omega)) (fun a y u1 u2 => hL' a y (by omega) (by omega)), fun x hx => CxR_f (hCx x hx) (Nat.le_refl _) (fun a y u1 u2 u3 => cA a y (by omega)) (fun a y u1 u2 u3 => cM a y (by omega)) (cM _ _ (by omega)) (fun a u1 u2 => hL a (by omega) (by omega)) (by
    obtain ⟨_, _, _, _, _, q⟩ := hQ x hx
    rw [hC _ (by omega), hL _ (by omega) (by omega)]
    exact q), fun i hi => by rw [cA _ _ (by omega), cM _ _ (by omega)]; exact h17 i hi, fun k hk => by rw [cM _ _ (by omega)]; exact h924 k hk, by rw [cA _ _ (by omega), cM _ _ (by omega)]; exact h0, by rw [cA _ _ (by omega), cM _ _ (by omega)]; exact h4, hE, hbd⟩
  obtain ⟨h1, h2, ⟨sm, h3, h3'⟩, h4, h5, h6, h7, h8, h9, h10, h11, h12, h13⟩ := hSl
  have hFS := hTk.1
  refine ⟨fun f hf => ?_, fun f hf => ?_, ⟨sm, by rw [cA _ _ (by omega)]; exact h3, h3'⟩, h4, h5, hsi, fun w hw => by rw [cA _ _ (by omega)]; exact h7 w hw, by rw [cM _ _ (by omega)]; exact h8, by rw [cA _ _ (by omega)]; exact h9, h10, by rw [cM _ _ (by omega)]; exact h11, fun i hi => ?_, fun i hi => by rw [cA _ _ (by omega), cM _ _ (by omega)]; exact h13 i hi⟩
  · have hk : kFr d f = 941 + 53 * pkn (d 10 f) (d 12 f) := rfl
    have hpk : pkn (d 10 f) (d 12 f) < 12 := by
      have := (hFS.2.2.2.2.2.2.1 f hf).1
      have h6 := h4 f hf
      unfold FrT at this
      unfold pkn
      split <;> omega
    refine ⟨fun s hs hf' q hq => ?_, fun y hy hn => ?_⟩
    · obtain ⟨od, o1, o2⟩ := (h1 f hf).1 s hs hf' q hq
      exact ⟨od, by rw [cM _ _ (by omega)]; exact o1, o2⟩
    · rw [cM _ _ (by omega)]
      exact (h1 f hf).2 y hy hn
  · obtain ⟨⟨k, k1, k2, k3⟩, k4⟩ := h2 f hf
    exact ⟨⟨k, by rw [cA _ _ (by omega)]; exact k1, by rw [cM _ _ (by omega)]; exact k2, k3⟩, by rw [cA _ _ (by omega)]; exact k4⟩
  · rw [cA _ _ (by omega), cM _ _ (by omega)]
    exact h12 i hi
theorem CAR_e {A A' M M' : mwM} {Lc Lc' Lm Lm' : mwL} {C S F W R X T t E : Nat} {d : Nat → Nat → Nat} {tu : Nat → Bool} {g : Nat → Nat → Nat} {own Sb bd : Nat → Nat} {si : Nat → Bool} {p : PB} {o : Nat → Nat → Nat} {e ec tc fl : Nat → Nat} (h : CAR A M Lc Lm C S F W R X T t E d tu g own Sb bd si p o e ec tc fl) (hA : ∀ a y, 3 ≤ a → a < 731 → A' a y = A a y) (hM : ∀ a y, 732 ≤ a → a < 1577 → ¬ ((a = 732 ∧ (y ≤ 12 ∨ y = 102 ∨ y = 110)) ∨ a = 733) → ¬ (a = 821 ∧ y = 0) → ¬ (a = 902 ∧ y = 0) → a ≠ 933 → a ≠ 940 → ¬ (964 ≤ a ∧ (a - 964) % 53 = 0 ∧ y = 0) → M' a y = M a y) (hC : ∀ a, a < 732 → Lc' a = Lc a) (hL : ∀ a, 732 ≤ a → a < 1577 → Lm' a = Lm a) : CAR A' M' Lc' Lm' C S F W R X T t E d tu g own Sb bd si p o e ec tc fl := by
  obtain ⟨hTk, hTr, hp, hBu, hSl, _⟩ := id h
  exact CAR_x h (TrB_f hTr (fun a y u => hA a y (by omega) (by omega)) (fun a y u => hM a y (by omega) (by omega) (by omega) (by omega) (by omega) (by omega) (by omega) (by omega)) (fun a y u1 u2 => by rw [hL a (by omega) (by omega)])) hp (BusE_fr hBu (fun a y u1 u2 => hA a y (by omega) (by omega)) (fun a y u1 u2 u3 => hM a y (by omega) (by omega) (by omega) (by omega) (by omega) (by omega) (by omega) (by omega))) (RTr_fr hTk.2.2.2.2.2.1 (fun a y u1 u2 => hA a y (by omega) (by omega)) (fun a y u1 u2 u3 => hM a y (by omega) (by omega) (by omega) (by omega) (by omega) (by omega) (by omega) (by omega))) (fun c hc => by rw [hA _ _ (by omega) (by omega), hM _ _ (by omega) (by omega) (by omega) (by omega) (by omega) (by omega) (by omega) (by omega)]; exact hSl.2.2.2.2.2.1 c hc) (fun a y u1 u2 _ _ _ _ _ => hA a y u1 u2) (fun a y u1 u2 u3 u4 u5 u6 u7 u8 u9 => hM a y u1 u2 (by omega) (by omega) (by omega) (by omega) (by omega) (by omega)) hC hL
theorem HS_e {A A' M M' : mwM} {Lc Lc' Lm Lm' : mwL} {Sb : Nat → Nat} (h : HS A M Lc Lm Sb) (hA : ∀ a y, a < 731 → ¬ (a = 0 ∧ y = 3) → A' a y = A a y) (hM : ∀ a y, 732 ≤ a → a < 1577 → ¬ (a = 732 ∧ (y = 0 ∨ y = 102 ∨ y = 110)) → ¬ (a = 821 ∧ y = 0) → ¬ (a = 902 ∧ y = 0) → a ≠ 933 → a ≠ 940 → ¬ (964 ≤ a ∧ (a - 964) % 53 = 0 ∧ y = 0) → M' a y = M a y) (hC : ∀ a, a < 732 → Lc' a = Lc a) (hL : ∀ a, 732 ≤ a → a < 1577 → Lm' a = Lm a) : HS A' M' Lc' Lm' Sb := by
  obtain ⟨⟨k, k1, k2, k3⟩, ⟨n, tx, t1, t2⟩, ⟨i1, i2, i3, i4, i5⟩, h5, hc⟩ := h
  have cM : ∀ a y, (a = 732 ∧ 1 ≤ y ∧ y ≤ 101) ∨ (733 ≤ a ∧ a ≤ 820) ∨ (854 ≤ a ∧ a ≤ 901) ∨ (941 ≤ a ∧ a < 1577 ∧ ¬ (964 ≤ a ∧ (a - 964) % 53 = 0 ∧ y = 0)) → M' a y = M a y := fun a y u => hM a y (by omega) (by omega) (by omega) (by omega) (by omega) (by omega) (by omega) (by omega)
  have cA : ∀ a y, (a = 0 ∧ y ≠ 3) ∨ (1 ≤ a ∧ a ≤ 730) → A' a y = A a y := fun a y u => hA a y (by omega) (by omega)
  refine ⟨⟨k, k1, by rw [cA _ _ (by omega)]; exact k2, by rw [cM _ _ (by omega)]; exact k3⟩, ⟨n, tx, TxC_f t1 (fun x y u => cA x y (by omega)), TxM_f t2 (fun x y u => cM x y (by omega))⟩, ⟨RCd_fr i1 (fun a y u1 u2 => cA a y (by omega)) (fun a y u => cM a y (by omega)), OcA_f i2 (fun a y u1 u2 => cA a y (by omega)), by rw [cM _ _ (by omega)]; exact i3, fun x hx => ?_, fun a ha y hy => by rw [cM _ _ (by omega)]; exact i5 a ha y hy⟩, by rw [cA _ _ (by omega), cM _ _ (by omega)]; exact h5, ?_⟩
  · obtain ⟨b1, b2, b3, b4⟩ := i4 x hx
    rw [cM _ _ (by omega), cM _ _ (by omega), cM _ _ (by omega), hC _ (by omega), hL _ (by omega) (by omega)]
    exact ⟨b1, b2, b3, b4⟩
  rcases hc with ⟨c1, c2⟩ | ⟨c1, c2, C, S, F, W, R, X, T, t, E, d, tu, g, own, bd, si, p, o, e, ec, tc, fl, c3, c4, c5⟩
  · exact Or.inl ⟨by rw [cA _ _ (by omega)]; exact c1, by rw [cM _ _ (by omega)]; exact c2⟩
  · exact Or.inr ⟨by rw [cA _ _ (by omega)]; exact c1, by rw [cM _ _ (by omega)]; exact c2, C, S, F, W, R, X, T, t, E, d, tu, g, own, bd, si, p, o, e, ec, tc, fl, CAR_e c3 (fun a y u1 u2 => cA a y (by omega)) (fun a y u1 u2 u3 u4 u5 u6 u7 u8 => hM a y u1 u2 (by omega) u4 u5 u6 u7 u8) hC hL, by rw [cA _ _ (by omega)]; exact c4, c5⟩
/-! CALLS: time, asking, answers, answer -/
/-- how a call that never throws ends -/
def CaS {α : Type} (Sb : Nat → Nat) (P Q : Option (α × mwM × mwL)) : Prop := ∃ (r : α) (A' M' : mwM) (Lc' Lm' : mwL), P = some (r, A', Lc') ∧ Q = some (r, M', Lm') ∧ HS A' M' Lc' Lm' Sb
theorem st_ltime {fu : Nat} {A M : mwM} {Lc Lm : mwL} {Sb : Nat → Nat} (h : HS A M Lc Lm Sb) : CaS Sb (DX11_time fu A Lc) (DX19_time fu M Lm) := by
  unfold DX11_time DX19_time fX11_time_b18 fX19_time_b20
  rw [mlet_e, mset_n (show ¬ (732 = 732 ∧ 4 = 0) by omega), mset_n (show ¬ (732 = 732 ∧ 83 = 0) by omega)]
  rcases h.2.2.2.2 with ⟨c1, c2⟩ | ⟨c1, c2, C, S, F, W, R, X, T, t, E, d, tu, g, own, bd, si, p, o, e, ec, tc, fl, c3, c4, c5⟩
  · rw [if_pos c1, if_pos c2]
    exact ⟨0, A, _, Lc, Lm, rfl, rfl, HS_0 h⟩
  rw [if_neg (show ¬ A 0 5 = 0 by rw [c1]; decide), if_neg (show ¬ M 732 4 = 0 by rw [c2]; decide)]
  obtain ⟨hTk, _⟩ := c3
  have k16 := hTk.2.2.2.2.2.2.2.2.2.2.2.1
  have k83 := hTk.2.2.2.2.2.2.2.2.2.2.2.2.1
  rw [k16, k83]
  exact ⟨sI t, A, _, Lc, Lm, rfl, rfl, HS_0 h⟩
theorem st_lasking {fu : Nat} {A M : mwM} {Lc Lm : mwL} {Sb : Nat → Nat} (h : HS A M Lc Lm Sb) : CaS Sb (DX11_asking fu A Lc) (DX19_asking fu M Lm) := by
  unfold DX11_asking DX19_asking fX11_asking_b18 fX19_asking_b20
  rw [mlet_e, mset_n (show ¬ (732 = 732 ∧ 4 = 0) by omega), mset_n (show ¬ (732 = 732 ∧ 97 = 0) by omega)]
  rcases h.2.2.2.2 with ⟨c1, c2⟩ | ⟨c1, c2, C, S, F, W, R, X, T, t, E, d, tu, g, own, bd, si, p, o, e, ec, tc, fl, c3, c4, c5⟩
  · rw [if_pos c1, if_pos c2]
    exact ⟨-1, A, _, Lc, Lm, rfl, rfl, HS_0 h⟩
  rw [if_neg (show ¬ A 0 5 = 0 by rw [c1]; decide), if_neg (show ¬ M 732 4 = 0 by rw [c2]; decide)]
  obtain ⟨_, hTr, _⟩ := c3
  rw [hTr.2.2.2.2.2.2.1]
  exact ⟨_, A, _, Lc, Lm, rfl, rfl, HS_0 h⟩
theorem car_ans {fu : Nat} {A M : mwM} {Lc Lm : mwL} {C S F W R X T t E : Nat} {d : Nat → Nat → Nat} {tu : Nat → Bool} {g : Nat → Nat → Nat} {own Sb bd : Nat → Nat} {si : Nat → Bool} {p : PB} {o : Nat → Nat → Nat} {e ec tc fl : Nat → Nat} (h : CAR A M Lc Lm C S F W R X T t E d tu g own Sb bd si p o e ec tc fl) (c1 : A 0 5 = 1) : ∃ z, z ≤ 100 ∧ M 732 98 = sI z ∧ DX11_answerLength fu A Lc = some (sI z, A, Lc) ∧ (0 < z → ∃ (m : Nat) (v : Nat → Nat), m ≤ 100 ∧ A 3 18 = sI m ∧ ∀ j, j < z → A (162 + m) j = sI (v j) ∧ M 931 j = sI (v j)) := by
  obtain ⟨_, ⟨hV, hTC, _, _, _, _, _, _, hAn, _⟩, _⟩ := h
  unfold DX11_answerLength fX11_answerLength_b40 fX11_answerLength_b41
  rw [if_neg (show ¬ A 0 5 = 0 by rw [c1]; decide)]
  obtain ⟨⟨v1, _⟩, v2, _⟩ := hV
  rcases hAn with ⟨a1, a2⟩ | ⟨m, m1, m2, m3, m4, m5⟩
  · exact ⟨0, by omega, a2, by rw [a1, if_pos (show sI 0 ≤ 0 by decide)]; rfl, fun z => absurd z (by omega)⟩
  · obtain ⟨_, q1, q2, q3, _⟩ := v2 m m1 m2
    obtain ⟨_, _, w3, _, _, w6⟩ := hTC.2.1 m m1 m2
    refine ⟨p.1 2 m, by omega, m4, ?_, fun _ => ⟨m, o m, by omega, m3, fun j hj => ⟨w6 j hj, m5 j hj⟩⟩⟩
    rw [m3, if_neg (show ¬ sI m ≤ 0 by rw [sI_lel (by omega) (by decide)]; omega), mck_s (by omega) (by omega), sI_nn (by omega), w3]
theorem st_lanswers {fu : Nat} {A M : mwM} {Lc Lm : mwL} {Sb : Nat → Nat} (h : HS A M Lc Lm Sb) : CaS Sb (DX11_answers fu A Lc) (DX19_answers fu M Lm) := by
  unfold DX11_answers DX19_answers fX19_answers_b20
  rw [mlet_e, mset_n (show ¬ (732 = 732 ∧ 4 = 0) by omega), mset_n (show ¬ (732 = 732 ∧ 98 = 0) by omega)]
  rcases h.2.2.2.2 with ⟨c1, c2⟩ | ⟨c1, c2, C, S, F, W, R, X, T, t, E, d, tu, g, own, bd, si, p, o, e, ec, tc, fl, c3, c4, c5⟩
  · unfold DX11_answerLength fX11_answerLength_b40 fX11_answerLength_b41
    rw [if_pos c1, if_pos c2, mb3_s]
    exact ⟨0, A, _, Lc, Lm, rfl, rfl, HS_0 h⟩
  obtain ⟨z, _, z2, z3, _⟩ := car_ans (fu := fu) c3 c1
  rw [z3, mb3_s, if_neg (show ¬ M 732 4 = 0 by rw [c2]; decide), z2]
  exact ⟨sI z, A, _, Lc, Lm, rfl, rfl, HS_0 h⟩
theorem st_lanswer {fu : Nat} {a1 : Int32} {A M : mwM} {Lc Lm : mwL} {Sb : Nat → Nat} (h : HS A M Lc Lm Sb) : CaQ mp32 Sb (DX11_answer fu a1 A Lc) (DX19_answer fu a1 M Lm) := by
  unfold DX11_answer DX19_answer fX11_answer_b12 fX19_answer_b20 fX19_answer_b25 fX19_answer_b45
  simp only [mlet_e, mset_s]
  rw [if_neg (show ¬ (1 : Int32) ≤ 0 by decide), if_pos (show (0 : Int32) ≤ 0 by decide)]
  have bad : CaQ mp32 Sb (some ((3, 0), A, Lc)) (some (0, mset M 732 0 1, Lm)) := ⟨3, 0, A, _, Lc, Lm, rfl, rfl, mset_s, HS_0 h⟩
  by_cases c0 : a1 < 0
  · rw [if_pos c0, if_pos c0]
    by_cases q : M 732 4 = 0
    · rw [if_pos q]; exact bad
    · rw [if_neg q]; exact bad
  rw [if_neg c0, if_neg c0]
  rcases h.2.2.2.2 with ⟨c1, c2⟩ | ⟨c1, c2, C, S, F, W, R, X, T, t, E, d, tu, g, own, bd, si, p, o, e, ec, tc, fl, c3, c4, c5⟩
  · unfold DX11_answerLength fX11_answerLength_b40 fX11_answerLength_b41
    rw [if_pos c1, if_pos c2, mb3_s, if_neg c0]
    exact bad
  obtain ⟨z, z1, z2, z3, z4⟩ := car_ans (fu := fu) c3 c1
  rw [z3, mb3_s, if_neg (show ¬ M 732 4 = 0 by rw [c2]; decide), z2]
  by_cases cS : a1 < sI z
  rotate_left
  · rw [if_neg cS, if_neg cS]
    exact bad
  rw [if_pos cS, if_pos cS]
  obtain ⟨i, hi, rfl⟩ := nat_lt' c0 cS (by omega)
  obtain ⟨m, v, m1, m2, m3⟩ := z4 (by omega)
  obtain ⟨w1, w2⟩ := m3 i hi
  rw [m2, mck_s (by omega) (by omega), mck_s (by omega) (by omega), mck_s (by omega) (by omega), sI_nn (by omega), sI_nn (by omega), mset_n (by omega), w1, w2]
  exact ⟨0, sI (v i), A, _, Lc, Lm, rfl, rfl, mset_s, HS_0 h⟩
/-! CALLS: node, error -/
theorem st_lnode {fu : Nat} {a1 a2 : Int32} {A M : mwM} {Lc Lm : mwL} {Sb : Nat → Nat} (hfu : 5000 ≤ fu) (h : HS A M Lc Lm Sb) : CaQ mp32 Sb (DX11_node fu a1 a2 A Lc) (DX19_node fu a1 a2 M Lm) := by
  unfold DX11_node DX19_node fX11_node_b22 fX11_node_b41 fX11_node_b70 fX19_node_b20 fX19_node_b33 fX19_node_b38 fX19_node_b91
  simp only [mlet_e, mset_s]
  rw [if_neg (show ¬ (1 : Int32) ≤ 0 by decide), if_neg (show ¬ (2 : Int32) ≤ 0 by decide), if_pos (show (0 : Int32) ≤ 0 by decide)]
  have bad : CaQ mp32 Sb (some ((3, 0), A, Lc)) (some (0, mset M 732 0 1, Lm)) := ⟨3, 0, A, _, Lc, Lm, rfl, rfl, mset_s, HS_0 h⟩
  have bad2 : CaQ mp32 Sb (some ((2, 0), A, Lc)) (some (0, mset M 732 0 2, Lm)) := ⟨2, 0, A, _, Lc, Lm, rfl, rfl, mset_s, HS_0 h⟩
  rcases h.2.2.2.2 with ⟨c1, c2⟩ | ⟨c1, c2, C, S, F, W, R, X, T, t, E, d, tu, g, own, bd, si, p, o, e, ec, tc, fl, c3, c4, c5⟩
  · rw [if_pos c1, if_pos c2]
    exact bad
  rw [if_neg (show ¬ A 0 5 = 0 by rw [c1]; decide), if_neg (show ¬ M 732 4 = 0 by rw [c2]; decide)]
  have c3' := CAR_f (M' := mset M 732 0 0) c3 (fun _ _ _ => rfl) (fun a y u => mset_n (by omega))
  obtain ⟨hTk, _, _, ⟨F', ow, id', oc, dn, asl, hB⟩, hSl, _⟩ := c3'
  have s9 := hSl.2.2.2.2.2.2.2.2.1
  have s8 := hSl.2.2.2.2.2.2.2.1
  rw [mset_n (by omega)] at s8
  have hC := hSl.2.2.2.2.2.2.2.2.2.1
  have kt := hTk.2.2.2.2.2.2.2.2.2.2.2.2.2
  obtain ⟨⟨b1, ⟨b2, b3, b4⟩, b5, b6, b7, b8, b9, b10, b11, b12, b13, b14⟩, hNd, _⟩ := hB
  rw [s8, s9]
  by_cases c0 : a1 < 0
  · rw [if_pos c0, if_pos c0]
    exact bad
  rw [if_neg c0, if_neg c0]
  by_cases cS : a1 ≤ sI C
  rotate_left
  · rw [if_neg cS, if_neg cS]
    exact bad
  rw [if_pos cS, if_pos cS]
  obtain ⟨n, hn, rfl⟩ := nat_le (Int32.not_lt.mp c0) cS (by omega)
  by_cases d0 : a2 < 0
  · rw [if_pos d0, if_pos d0]
    exact bad2
  rw [if_neg d0, if_neg d0]
  by_cases d4 : a2 ≤ 2
  rotate_left
  · rw [if_neg d4, if_neg d4]
    exact bad2
  rw [if_pos d4, if_pos d4]
  obtain ⟨i, hi, rfl⟩ := nat_le (m := 2) (Int32.not_lt.mp d0) d4 (by omega)
  have ok : ∀ r : Int32, CaQ mp32 Sb (some ((0, r), A, Lc)) (some (r, mset (mset M 732 0 0) 821 0 0, Lm)) := fun r => ⟨0, r, A, _, Lc, Lm, rfl, rfl, by rw [mset_n (by omega), mset_s]; rfl, HS_821 (HS_0 h)⟩
  obtain ⟨x1, x2, _⟩ := b11 n (by omega)
  have hs7 : s7 tc ≤ 3600 := by
    have := b14
    unfold s7
    have q0 := (b14 0 (by omega)).2
    have q1 := (b14 1 (by omega)).2
    have q2 := (b14 2 (by omega)).2
    have q3 := (b14 3 (by omega)).2
    have q4 := (b14 4 (by omega)).2
    have q5 := (b14 5 (by omega)).2
    have q6 := (b14 6 (by omega)).2
    omega
  have : i = 0 ∨ i = 1 ∨ i = 2 := by omega
  rcases this with rfl | rfl | rfl
  · rw [if_pos (show sI 0 = (0 : Int32) from rfl), if_pos (show sI 0 = (0 : Int32) from rfl), m_state12 (N := C + 1) b3 (by omega) (by omega), mb3_s, show mck (0 : Int32) 8 (mck (sI n) 7 (some (((0 : Nat), A (25 + (0 : Int32).toNatClampNeg) (sI n).toNatClampNeg), A, Lc))) = some ((0, A 25 n), A, Lc) by
      rw [show (0 : Int32) = sI 0 from rfl, mck_s (by omega) (by omega), mck_s (by omega) (by omega), sI_nn (by omega), sI_nn (by omega)], ← NdR_25 (hNd n (by omega))]
    exact ok _
  · rw [if_neg (show ¬ sI 1 = (0 : Int32) by decide), if_pos (show sI 1 = (1 : Int32) from rfl), if_neg (show ¬ sI 1 = (0 : Int32) by decide), if_pos (show sI 1 = (1 : Int32) from rfl), m_waiting12 (N := C + 1) (by omega) b3 (by omega) (by omega) b6, mb3_s, show mck (5 : Int32) 8 (mck (sI n) 7 (some (((0 : Nat), A (25 + (5 : Int32).toNatClampNeg) (sI n).toNatClampNeg), A, Lc))) = some ((0, A 30 n), A, Lc) by
      rw [show (5 : Int32) = sI 5 from rfl, mck_s (by omega) (by omega), mck_s (by omega) (by omega), sI_nn (by omega), sI_nn (by omega)], x1]
    exact ok _
  · rw [if_neg (show ¬ sI 2 = (0 : Int32) by decide), if_neg (show ¬ sI 2 = (1 : Int32) by decide), if_neg (show ¬ sI 2 = (0 : Int32) by decide), if_neg (show ¬ sI 2 = (1 : Int32) by decide), m_takenC (N := C + 1) (by omega) b3 (by omega) (by omega) b12 hs7 b13, mb3_s, show mck (6 : Int32) 8 (mck (sI n) 7 (some (((0 : Nat), A (25 + (6 : Int32).toNatClampNeg) (sI n).toNatClampNeg), A, Lc))) = some ((0, A 31 n), A, Lc) by
      rw [show (6 : Int32) = sI 6 from rfl, mck_s (by omega) (by omega), mck_s (by omega) (by omega), sI_nn (by omega), sI_nn (by omega)], x2]
    exact ok _
/-! CALLS: error -/
theorem st_lerror {fu : Nat} {a1 a2 : Int32} {A M : mwM} {Lc Lm : mwL} {Sb : Nat → Nat} (h : HS A M Lc Lm Sb) : CaQ mp32 Sb (DX11_error fu a1 a2 A Lc) (DX19_error fu a1 a2 M Lm) := by
  have eC : ¬ (a1 = -1 ∧ a2 = 0) → DX11_error fu a1 a2 A Lc = fX11_error_b14 fu a1 a2 0 A Lc := fun q => by
    unfold DX11_error fX11_error_b13
    by_cases q1 : a1 = -1
    · rw [if_pos q1, if_neg (fun z => q ⟨q1, z⟩)]
    · rw [if_neg q1]
  have eM : ∀ M0, ¬ (a1 = -1 ∧ a2 = 0) → DX12_error fu a1 a2 M0 Lm = fX12_error_b19 fu a1 a2 (mset M0 821 0 0) Lm := fun M0 q => by
    unfold DX12_error
    rw [mlet_e]
    by_cases q1 : a1 = -1
    · rw [if_pos q1, if_neg (fun z => q ⟨q1, z⟩)]
    · rw [if_neg q1]
  rcases h.2.2.2.2 with ⟨c1, c2⟩ | ⟨c1, c2, C, S, F, W, R, X, T, t, E, d, tu, g, own, bd, si, p, o, e, ec, tc, fl, c3, c4, c5⟩
  · have e1 : DX11_error fu a1 a2 A Lc = some ((3, 0), A, Lc) := by
      by_cases q : a1 = -1 ∧ a2 = 0
      · unfold DX11_error fX11_error_b14 fX11_error_b44
        rw [if_pos q.1, if_pos q.2, if_pos c1]
      · rw [eC q]
        unfold fX11_error_b14 fX11_error_b44
        rw [if_pos c1]
    have e2 : DX19_error fu a1 a2 M Lm = some (0, mset M 732 0 1, Lm) := by
      unfold DX19_error fX19_error_b13
      rw [if_pos c2, mlet_e, mset_s, if_neg (show ¬ (1 : Int32) ≤ 0 by decide)]
    rw [e1, e2]
    exact ⟨3, 0, A, _, Lc, Lm, rfl, rfl, mset_s, HS_0 h⟩
  have n5 : ¬ A 0 5 = 0 := by rw [c1]; decide
  have n4 : ¬ M 732 4 = 0 := by rw [c2]; decide
  have eR : ∀ v M', DX12_error fu a1 a2 (mset M 732 0 0) Lm = some (v, M', Lm) → DX19_error fu a1 a2 M Lm = some ((if M' 821 0 ≤ 0 then v else 0), mset M' 732 0 (M' 821 0), Lm) := fun v M' e => by
    unfold DX19_error fX19_error_b13 fX19_error_b58 DX12_thrown
    rw [if_neg n4, mlet_e, mset_s, if_pos (show (0 : Int32) ≤ 0 by decide), e, mb3_s, mb3_s, mlet_e, mset_s]
    by_cases q : M' 821 0 ≤ 0
    · rw [if_pos q, if_pos q]
    · rw [if_neg q, if_neg q]
  have hs : ∀ M', (∀ a y, ¬ (a = 821 ∧ y = 0) → ¬ (a = 732 ∧ y = 0) → M' a y = M a y) → ∀ v, HS A (mset M' 732 0 v) Lc Lm Sb := fun M' q v => HS_e h (fun _ _ _ _ => rfl) (fun a y u1 u2 u3 u4 u5 u6 u7 u8 => by rw [mset_n (by omega)]; exact q a y (by omega) (by omega)) (fun _ _ => rfl) (fun _ _ _ => rfl)
  have c3' := CAR_f (M' := mset M 732 0 0) c3 (fun _ _ _ => rfl) (fun a y u => mset_n (by omega))
  obtain ⟨hTk, _, _, ⟨F', ow, id', oc, dn, asl, hB⟩, hSl, _⟩ := c3'
  have kt := hTk.2.2.2.2.2.2.2.2.2.2.2.2.2
  obtain ⟨⟨b1, ⟨b2, b3, b4⟩, b5, b6, b7, b8, ⟨b9, b9', b9''⟩, b10, b11, b12, b13, b14⟩, hNd, _⟩ := hB
  have hs7 : s7 ec ≤ 17507 := by
    unfold s7
    have q0 := (b14 0 (by omega)).1
    have q1 := (b14 1 (by omega)).1
    have q2 := (b14 2 (by omega)).1
    have q3 := (b14 3 (by omega)).1
    have q4 := (b14 4 (by omega)).1
    have q5 := (b14 5 (by omega)).1
    have q6 := (b14 6 (by omega)).1
    omega
  by_cases q : a1 = -1 ∧ a2 = 0
  · have e1 : DX11_error fu a1 a2 A Lc = some ((0, sI (s7 ec)), A, Lc) := by
      unfold DX11_error fX11_error_b14 fX11_error_b54 fX11_error_b102
      rw [if_pos q.1, if_pos q.2, if_neg n5, if_neg (show ¬ (1 : Int32) = 0 by decide), q.2, if_neg (show ¬ (0 : Int32) < 0 by decide), if_pos (show (0 : Int32) ≤ 2 by decide), if_neg (show ¬ (1 : Int32) = 0 by decide), b9]
    have e2 : DX12_error fu a1 a2 (mset M 732 0 0) Lm = some (sI (s7 ec), mset (mset M 732 0 0) 821 0 0, Lm) := by
      unfold DX12_error
      rw [mlet_e, if_pos q.1, if_pos q.2, mset_n (show ¬ (821 = 821 ∧ 29 = 0) by omega), b9']
    rw [e1, eR _ _ e2, mset_s, if_pos (show (0 : Int32) ≤ 0 by decide)]
    exact ⟨0, sI (s7 ec), A, _, Lc, Lm, rfl, rfl, mset_s, hs _ (fun a y u1 u2 => by rw [mset_n (by omega), mset_n (by omega)]) _⟩
  have fin : ∀ w : Nat, ∀ k : Int32, ¬ k ≤ 0 → k = sI (mp32 w) → fX11_error_b14 fu a1 a2 0 A Lc = some ((w, 0), A, Lc) → fX12_error_b19 fu a1 a2 (mset (mset M 732 0 0) 821 0 0) Lm = fX12_error_b50 fu a1 a2 k (mset (mset M 732 0 0) 821 0 0) Lm → CaQ mp32 Sb (DX11_error fu a1 a2 A Lc) (DX19_error fu a1 a2 M Lm) := fun w k hk hw e1 e2 => by
    have e3 : DX12_error fu a1 a2 (mset M 732 0 0) Lm = some (0, mset (mset (mset M 732 0 0) 821 0 0) 821 0 k, Lm) := by
      rw [eM _ q, e2]
      unfold fX12_error_b50
      rw [mlet_e, mset_s, if_neg hk]
    rw [eC q, e1, eR _ _ e3, mset_s, if_neg hk]
    exact ⟨w, 0, A, _, Lc, Lm, rfl, rfl, by rw [mset_s, hw], hs _ (fun a y u1 u2 => by rw [mset_n (by omega), mset_n (by omega), mset_n (by omega)]) _⟩
  by_cases c0 : a1 < 0
  · refine fin 3 1 (by decide) rfl ?_ ?_
    · unfold fX11_error_b14 fX11_error_b44
      rw [if_neg n5, if_pos (show (0 : Int32) = 0 from rfl), if_pos c0]
    · unfold fX12_error_b19 fX12_error_b32
      rw [if_pos c0]
  have b29 : (mset (mset M 732 0 0) 821 0 0) 821 29 = sI (s7 ec) := by rw [mset_n (by omega)]; exact b9'
  by_cases cE : a1 < sI (s7 ec)
  rotate_left
  · refine fin 3 1 (by decide) rfl ?_ ?_
    · unfold fX11_error_b14 fX11_error_b44
      rw [if_neg n5, if_pos (show (0 : Int32) = 0 from rfl), if_neg c0, b9, if_neg cE]
    · unfold fX12_error_b19 fX12_error_b32
      rw [if_neg c0, b29, if_neg cE]
  by_cases d0 : a2 < 0
  · refine fin 2 2 (by decide) rfl ?_ ?_
    · unfold fX11_error_b14 fX11_error_b54 fX11_error_b63
      rw [if_neg n5, if_pos (show (0 : Int32) = 0 from rfl), if_neg c0, b9, if_pos cE, if_pos d0]
    · unfold fX12_error_b19 fX12_error_b45
      rw [if_neg c0, b29, if_pos cE, if_pos d0]
  by_cases d2 : a2 ≤ 2
  rotate_left
  · refine fin 2 2 (by decide) rfl ?_ ?_
    · unfold fX11_error_b14 fX11_error_b54 fX11_error_b63
      rw [if_neg n5, if_pos (show (0 : Int32) = 0 from rfl), if_neg c0, b9, if_pos cE, if_neg d0, if_neg d2]
    · unfold fX12_error_b19 fX12_error_b45
      rw [if_neg c0, b29, if_pos cE, if_neg d0, if_neg d2]
  obtain ⟨i, hi, rfl⟩ := nat_lt' c0 cE (by omega)
  obtain ⟨w, hw, rfl⟩ := nat_le (m := 2) (Int32.not_lt.mp d0) d2 (by omega)
  obtain ⟨v, v1, v2⟩ := st_error (fu := fu) (w := w) (Lc := Lc) (Lm := Lm) b9'' b9' hs7 hi (by omega)
  have e1 : DX11_error fu (sI i) (sI w) A Lc = some ((0, v), A, Lc) := by
    rw [eC q]
    unfold fX11_error_b14 fX11_error_b54 fX11_error_b102
    rw [if_neg n5, if_pos (show (0 : Int32) = 0 from rfl), if_neg c0, b9, if_pos cE, if_neg d0, if_pos d2, if_pos (show (0 : Int32) = 0 from rfl), v1, mb3_s]
  rw [e1, eR _ _ v2, mset_s, if_pos (show (0 : Int32) ≤ 0 by decide)]
  exact ⟨0, v, A, _, Lc, Lm, rfl, rfl, mset_s, hs _ (fun a y u1 u2 => by rw [mset_n (by omega), mset_n (by omega), mset_n (by omega)]) _⟩
/-! CALLS: flip -/
theorem HS_c {A A' M M' : mwM} {Lc Lc' Lm Lm' : mwL} {C S F W R X T t E : Nat} {d : Nat → Nat → Nat} {tu : Nat → Bool} {g : Nat → Nat → Nat} {own Sb bd : Nat → Nat} {si : Nat → Bool} {p : PB} {o : Nat → Nat → Nat} {e ec tc fl : Nat → Nat} (h : HS A M Lc Lm Sb) (c : CAR A' M' Lc' Lm' C S F W R X T t E d tu g own Sb bd si p o e ec tc fl) (c1 : A 0 5 = 1) (c2 : M 732 4 = 1) (c4 : A' 3 14 = sI X) (c5 : ∀ c, C ≤ c → c < 6 → si c = false) (hA : ∀ a y, a ≤ 2 → ¬ (a = 0 ∧ y = 3) → A' a y = A a y) (hM : ∀ a y, (a = 732 ∧ 2 ≤ y ∧ y ≤ 5) ∨ a = 733 ∨ (941 ≤ a ∧ a < 1577 ∧ (a - 941) % 53 = 8) ∨ (964 ≤ a ∧ a < 1577 ∧ 1 ≤ (a - 964) % 53 ∧ (a - 964) % 53 ≤ 3) → M' a y = M a y) (hC : ∀ a, a < 732 → Lc' a = Lc a) (hL : ∀ a, 732 ≤ a → a < 1577 → Lm' a = Lm a) : HS A' M' Lc' Lm' Sb := by
  obtain ⟨⟨k, k1, k2, k3⟩, ⟨n, tx, t1, t2⟩, ⟨i1, i2, i3, i4, i5⟩, h5, _⟩ := h
  obtain ⟨n1, n2, n3⟩ := car_hi c
  refine ⟨⟨k, k1, by rw [hA _ _ (by omega) (by omega)]; exact k2, by rw [hM _ _ (by omega)]; exact k3⟩, ⟨n, tx, TxC_f t1 (fun x y u => hA x y (by omega) (by omega)), TxM_f t2 (fun x y u => hM x y (by omega))⟩, ⟨n1, n2, n3, fun x hx => ?_, fun a ha y hy => by rw [hM _ _ (by omega)]; exact i5 a ha y hy⟩, by rw [hA _ _ (by omega) (by omega), hM _ _ (by omega)]; exact h5, Or.inr ⟨by rw [hA _ _ (by omega) (by omega)]; exact c1, by rw [hM _ _ (by omega)]; exact c2, C, S, F, W, R, X, T, t, E, d, tu, g, own, bd, si, p, o, e, ec, tc, fl, c, c4, c5⟩⟩
  obtain ⟨b1, b2, b3, b4⟩ := i4 x hx
  rw [hM _ _ (by omega), hM _ _ (by omega), hM _ _ (by omega), hC _ (by omega), hL _ (by omega) (by omega)]
  exact ⟨b1, b2, b3, b4⟩
def CaT (mp : Nat → Nat) (Sb : Nat → Nat) (P : Option (Nat × mwM × mwL)) (Q : Option (mwM × mwL)) : Prop := ∃ (w : Nat) (A' M' : mwM) (Lc' Lm' : mwL), P = some (w, A', Lc') ∧ Q = some (M', Lm') ∧ M' 732 0 = sI (mp w) ∧ HS A' M' Lc' Lm' Sb
theorem st_lflip {fu : Nat} {a1 a2 : Int32} {A M : mwM} {Lc Lm : mwL} {Sb : Nat → Nat} (h : HS A M Lc Lm Sb) : CaT mp32 Sb (DX11_flip fu a1 a2 A Lc) (DX19_flip fu a1 a2 M Lm) := by
  unfold DX11_flip DX19_flip fX11_flip_b22 fX11_flip_b50 fX19_flip_b20 fX19_flip_b39 fX19_flip_b44 fX19_flip_b63
  simp only [mlet_e, mset_s]
  rw [if_neg (show ¬ (1 : Int32) = 0 by decide), if_neg (show ¬ (2 : Int32) = 0 by decide)]
  have bad : CaT mp32 Sb (some (3, A, Lc)) (some (mset M 732 0 1, Lm)) := ⟨3, A, _, Lc, Lm, rfl, rfl, mset_s, HS_0 h⟩
  have bad2 : CaT mp32 Sb (some (2, A, Lc)) (some (mset M 732 0 2, Lm)) := ⟨2, A, _, Lc, Lm, rfl, rfl, mset_s, HS_0 h⟩
  rcases h.2.2.2.2 with ⟨c1, c2⟩ | ⟨c1, c2, C, S, F, W, R, X, T, t, E, d, tu, g, own, bd, si, p, o, e, ec, tc, fl, c3, c4, c5⟩
  · rw [if_pos c1, if_pos c2]
    exact bad
  rw [if_neg (show ¬ A 0 5 = 0 by rw [c1]; decide), if_neg (show ¬ M 732 4 = 0 by rw [c2]; decide)]
  have c3' := CAR_f (M' := mset M 732 0 0) c3 (fun _ _ _ => rfl) (fun a y u => mset_n (by omega))
  obtain ⟨hTk, hTr, hp, ⟨F', ow, id', oc, dn, asl, hB⟩, hSl, _⟩ := id c3'
  have s9 := hSl.2.2.2.2.2.2.2.2.1
  have s8 := hSl.2.2.2.2.2.2.2.1
  rw [mset_n (by omega)] at s8
  have hC := hSl.2.2.2.2.2.2.2.2.2.1
  have k16 := hTk.2.2.2.2.2.2.2.2.2.2.2.1
  have k83 := hTk.2.2.2.2.2.2.2.2.2.2.2.2.1
  rw [mset_n (by omega)] at k83
  have kt := hTk.2.2.2.2.2.2.2.2.2.2.2.2.2
  rw [s8, s9, k16, k83]
  by_cases c0 : a1 < 0
  · rw [if_pos c0, if_pos c0]
    exact bad
  rw [if_neg c0, if_neg c0]
  by_cases cS : a1 ≤ sI C
  rotate_left
  · rw [if_neg cS, if_neg cS]
    exact bad
  rw [if_pos cS, if_pos cS]
  obtain ⟨n, hn, rfl⟩ := nat_le (Int32.not_lt.mp c0) cS (by omega)
  by_cases d0 : a2 < sI t
  · rw [if_pos d0, if_pos d0]
    exact bad2
  rw [if_neg d0, if_neg d0]
  have dd : a2 ≤ 19999 ↔ a2 < 20000 := by
    rw [Int32.le_iff_toInt_le, Int32.lt_iff_toInt_lt]
    show a2.toInt ≤ 19999 ↔ a2.toInt < 20000
    omega
  by_cases d4 : a2 < 20000
  rotate_left
  · rw [if_neg d4, if_neg (fun z => d4 (dd.mp z))]
    exact bad2
  rw [if_pos d4, if_pos (dd.mpr d4)]
  have hneg : ¬ a2 < 0 := fun z => d0 (Int32.lt_iff_toInt_lt.mpr (by
    have := Int32.lt_iff_toInt_lt.mp z
    rw [sI_toInt (by omega)]
    have hz : (0 : Int32).toInt = 0 := rfl
    omega))
  obtain ⟨i, hi, rfl⟩ := nat_lt' (m := 20000) hneg d4 (by omega)
  have hti : t ≤ i := by
    rw [sI_lt (by omega) (by omega)] at d0
    omega
  obtain ⟨M', x1, x2, x3⟩ := st_flip (fu := fu) (Lm := Lm) hB (show n < C + 1 by omega) hti hi
  rw [mck_s hi (by omega), mck_s hi (by omega), sI_nn (by omega), x1, mb2_s]
  have fM : ∀ a y, ¬ (a = 732 ∧ y = 0) → ¬ (a = 821 ∧ y = 0) → a ≠ 838 → M' a y = M a y := fun a y u1 u2 u3 => by rw [x3 a y u2 u3, mset_n u1]
  refine ⟨0, _, M', Lc, Lm, rfl, rfl, by rw [x3 _ _ (by omega) (by omega), mset_s]; rfl, ?_⟩
  refine HS_c h (CAR_x (si' := si) c3 (TrB_f hTr (fun a y u => mset_n (by omega)) (fun a y u => x3 a y (by omega) (by omega)) (fun _ _ _ _ => rfl)) hp ⟨F', ow, id', oc, dn, asl, x2⟩ (RTr_fr hTk.2.2.2.2.2.1 (fun a y u1 u2 => mset_n (by omega)) (fun a y u1 u2 u3 => x3 a y (by omega) (by omega))) (fun c hc => by rw [mset_n (by omega), x3 _ _ (by omega) (by omega)]; exact hSl.2.2.2.2.2.1 c hc) (fun a y u1 u2 u3 u4 u5 u6 u7 => mset_n (by omega)) (fun a y u1 u2 u3 u4 u5 u6 u7 u8 u9 => fM a y (by omega) (by omega) (by omega)) (fun _ _ => rfl) (fun _ _ _ => rfl)) c1 c2 (by rw [mset_n (by omega)]; exact c4) c5 (fun a y u1 u2 => mset_n (by omega)) (fun a y u => fM a y (by omega) (by omega) (by omega)) (fun _ _ => rfl) (fun _ _ _ => rfl)
/-! CALLS: silence -/
theorem c_silL {fu C : Nat} {a1 a2 : Int32} {A : mwM} {L : mwL} {si : Nat → Bool} (hC : C ≤ 6) (h13 : A 3 13 = sI C) (hs : ∀ c, c < 6 → A 284 c = bI (si c)) : ∀ (m c f : Nat), c + m = C → m < f → fX11_silence_h47 fu a1 a2 f (sI (cnt si c), sI c, A, L) = some ((0, sI (cnt si C)), A, L) := by
  intro m
  induction m with
  | zero =>
    intro c f hc hf
    obtain ⟨f, rfl⟩ : ∃ y, f = y + 1 := ⟨f - 1, by omega⟩
    show fX11_silence_i47 fu a1 a2 (fX11_silence_h47 fu a1 a2 f) (sI (cnt si c)) (sI c) A L = _
    unfold fX11_silence_i47
    rw [h13, if_pos (show sI C ≤ sI c by rw [sI_le (by omega) (by omega)]; omega), show c = C by omega]
  | succ m ih =>
    intro c f hc hf
    obtain ⟨f, rfl⟩ : ∃ y, f = y + 1 := ⟨f - 1, by omega⟩
    show fX11_silence_i47 fu a1 a2 (fX11_silence_h47 fu a1 a2 f) (sI (cnt si c)) (sI c) A L = _
    unfold fX11_silence_i47 fX11_silence_b78
    have nx := ih (c + 1) f (by omega) (by omega)
    rw [cnt_sc] at nx
    rw [h13, if_neg (show ¬ sI C ≤ sI c by rw [sI_le (by omega) (by omega)]; omega), mck_s (by omega) (by omega), sI_nn (by omega), hs c (by omega), mlet_e, mlet_e, mlet_e, mlet_e, sI_1]
    cases q : si c with
    | false =>
      rw [q, if_neg (by decide), Nat.add_zero] at nx
      rw [if_pos (show bI false = 0 from rfl), show (sI (cnt si c) + 0 : Int32) = sI (cnt si c) from sI_add (b := 0)]
      exact nx
    | true =>
      rw [q, if_pos rfl] at nx
      rw [if_neg (show ¬ bI true = 0 by decide), sI_1]
      exact nx
theorem m_silL {fu : Nat} {a1 a2 : Int32} {M : mwM} {L : mwL} {si : Nat → Bool} (hs : ∀ c, c < 6 → M 923 c = bI (si c)) : ∀ (m c f : Nat), c + m = 6 → m < f → fX19_silence_h38 fu a1 a2 f (sI (cnt si c), sI c, M, L) = some (sI (cnt si 6), M, L) := by
  intro m
  induction m with
  | zero =>
    intro c f hc hf
    obtain ⟨f, rfl⟩ : ∃ y, f = y + 1 := ⟨f - 1, by omega⟩
    show fX19_silence_i38 fu a1 a2 (fX19_silence_h38 fu a1 a2 f) (sI (cnt si c)) (sI c) M L = _
    unfold fX19_silence_i38
    rw [if_pos (show (6 : Int32) ≤ sI c by rw [show c = 6 by omega]; decide), show c = 6 by omega]
  | succ m ih =>
    intro c f hc hf
    obtain ⟨f, rfl⟩ : ∃ y, f = y + 1 := ⟨f - 1, by omega⟩
    show fX19_silence_i38 fu a1 a2 (fX19_silence_h38 fu a1 a2 f) (sI (cnt si c)) (sI c) M L = _
    unfold fX19_silence_i38 fX19_silence_b62
    have nx := ih (c + 1) f (by omega) (by omega)
    rw [cnt_sc] at nx
    rw [if_neg (show ¬ (6 : Int32) ≤ sI c by rw [show (6 : Int32) = sI 6 from rfl, sI_le (by omega) (by omega)]; omega), mck_s (by omega) (by omega), sI_nn (by omega), hs c (by omega), mlet_e, mlet_e, sI_1, sI_1]
    cases q : si c with
    | false =>
      rw [q, if_neg (by decide), Nat.add_zero] at nx
      rw [if_pos (show bI false = 0 from rfl)]
      exact nx
    | true =>
      rw [q, if_pos rfl] at nx
      rw [if_neg (show ¬ bI true = 0 by decide)]
      exact nx
theorem cnt_tail {si : Nat → Bool} {C : Nat} (h : ∀ c, C ≤ c → c < 6 → si c = false) : ∀ m, C + m ≤ 6 → cnt si (C + m) = cnt si C := by
  intro m
  induction m with
  | zero => intro _; rfl
  | succ m ih =>
    intro hm
    rw [show C + (m + 1) = C + m + 1 from rfl, cnt_sc, h (C + m) (by omega) (by omega), if_neg (by decide), ih (by omega)]
    rfl
theorem m_noCon {fu : Nat} {a1 : Int32} {M : mwM} {L : mwL} : DX19_noController fu a1 M L = some ((if M 732 4 = 0 then 1 else if a1 < 0 then 1 else if a1 < M 732 19 then 0 else 1), M, L) := by
  unfold DX19_noController fX19_noController_b19 fX19_noController_b24
  rw [mzz_1, mzz_0]
  by_cases q1 : M 732 4 = 0
  · rw [if_pos q1, if_pos q1]
  rw [if_neg q1, if_neg q1]
  by_cases q2 : a1 < 0
  · rw [if_pos q2, if_pos q2]
  rw [if_neg q2, if_neg q2]
  by_cases q3 : a1 < M 732 19
  · rw [if_pos q3, if_pos q3]
  · rw [if_neg q3, if_neg q3]
theorem st_lsilence {fu : Nat} {a1 : Int32} {v : Bool} {A M : mwM} {Lc Lm : mwL} {Sb : Nat → Nat} (hfu : 10 ≤ fu) (h : HS A M Lc Lm Sb) : CaQ mp32 Sb (DX11_silence fu a1 (bI v) A Lc) (DX19_silence fu a1 (bI v) M Lm) := by
  unfold DX11_silence DX19_silence fX11_silence_b22 fX19_silence_b14
  rw [m_noCon, mb3_s]
  simp only [mlet_e, mset_s]
  rw [if_neg (show ¬ (1 : Int32) ≤ 0 by decide), if_pos (show (0 : Int32) ≤ 0 by decide)]
  have bad : CaQ mp32 Sb (some ((3, 0), A, Lc)) (some (0, mset M 732 0 1, Lm)) := ⟨3, 0, A, _, Lc, Lm, rfl, rfl, mset_s, HS_0 h⟩
  have n10 : ¬ (1 : Int32) = 0 := by decide
  rcases h.2.2.2.2 with ⟨c1, c2⟩ | ⟨c1, c2, C, S, F, W, R, X, T, t, E, d, tu, g, own, bd, si, p, o, e, ec, tc, fl, c3, c4, c5⟩
  · rw [if_pos c1, if_pos c2, if_neg n10]
    exact bad
  rw [if_neg (show ¬ A 0 5 = 0 by rw [c1]; decide), if_neg (show ¬ M 732 4 = 0 by rw [c2]; decide)]
  have c3' := CAR_f (M' := mset M 732 0 0) c3 (fun _ _ _ => rfl) (fun a y u => mset_n (by omega))
  obtain ⟨hTk, hTr, hp, hBu, hSl, _⟩ := id c3'
  have s9 := hSl.2.2.2.2.2.2.2.2.1
  have s8 := hSl.2.2.2.2.2.2.2.1
  rw [mset_n (by omega)] at s8
  have hC := hSl.2.2.2.2.2.2.2.2.2.1
  have hsi := hSl.2.2.2.2.2.1
  rw [s8, s9]
  by_cases c0 : a1 < 0
  · rw [if_pos c0, if_pos c0, if_neg n10]
    exact bad
  rw [if_neg c0, if_neg c0]
  by_cases cS : a1 < sI C
  rotate_left
  · rw [if_neg cS, if_neg cS, if_neg n10]
    exact bad
  rw [if_pos cS, if_pos cS, if_pos (show (0 : Int32) = 0 from rfl)]
  obtain ⟨c, hc, rfl⟩ := nat_lt' c0 cS (by omega)
  rw [mck_s (show c < 6 by omega) (by omega), mck_s (show c < 6 by omega) (by omega), sI_nn (by omega), bI_n]
  have hs1 : ∀ i, i < 6 → mset A 284 c (bI v) 284 i = bI ((fun i => if i = c then v else si i) i) := fun i hi => by
    dsimp only
    by_cases q : i = c
    · subst q
      rw [mset_s, if_pos rfl]
    · rw [mset_n (by omega), if_neg q]
      exact (hsi i hi).1
  have hs2 : ∀ i, i < 6 → mset (mset M 732 0 0) 923 c (bI v) 923 i = bI ((fun i => if i = c then v else si i) i) := fun i hi => by
    dsimp only
    by_cases q : i = c
    · subst q
      rw [mset_s, if_pos rfl]
    · rw [mset_n (by omega), if_neg q]
      exact (hsi i hi).2
  have c5' : ∀ i, C ≤ i → i < 6 → (fun i => if i = c then v else si i) i = false := fun i h1 h2 => by
    dsimp only
    rw [if_neg (by omega)]
    exact c5 i h1 h2
  have e1 := c_silL (fu := fu) (a1 := sI c) (a2 := bI v) (L := Lc) hC (by rw [mset_n (by omega)]; exact s9) hs1 C 0 fu (by omega) (by omega)
  have e2 := m_silL (fu := fu) (a1 := sI c) (a2 := bI v) (L := Lm) hs2 6 0 fu (by omega) (by omega)
  rw [show fX11_silence_h47 fu (sI c) (bI v) fu (0, 0, mset A 284 c (bI v), Lc) = _ from e1, show fX19_silence_h38 fu (sI c) (bI v) fu (0, 0, mset (mset M 732 0 0) 923 c (bI v), Lm) = _ from e2]
  have e3 := cnt_tail (C := C) c5' (6 - C) (by omega)
  rw [show C + (6 - C) = 6 by omega] at e3
  rw [e3]
  refine ⟨0, _, _, _, Lc, Lm, rfl, rfl, by rw [mset_n (by omega), mset_s]; rfl, ?_⟩
  refine HS_c h (CAR_x (si' := fun i => if i = c then v else si i) c3 (TrB_f hTr (fun a y u => mset_n (by omega)) (fun a y u => mset_n (by omega)) (fun _ _ _ _ => rfl)) hp (BusE_fr hBu (fun a y u1 u2 => mset_n (by omega)) (fun a y u1 u2 u3 => mset_n (by omega))) (RTr_fr hTk.2.2.2.2.2.1 (fun a y u1 u2 => mset_n (by omega)) (fun a y u1 u2 u3 => mset_n (by omega))) (fun i hi => ⟨hs1 i hi, hs2 i hi⟩) (fun a y u1 u2 u3 u4 u5 u6 u7 => mset_n (by omega)) (fun a y u1 u2 u3 u4 u5 u6 u7 u8 u9 => by rw [mset_n (by omega), mset_n (by omega)]) (fun _ _ => rfl) (fun _ _ _ => rfl)) c1 c2 (by rw [mset_n (by omega)]; exact c4) c5' (fun a y u1 u2 => mset_n (by omega)) (fun a y u => by rw [mset_n (by omega), mset_n (by omega)]) (fun _ _ => rfl) (fun _ _ _ => rfl)
/-! CALLS: running, task -/
theorem lg_lt' {a b : Nat} (ha : a < 2000000000) (hb : b < 2000000000) : (lg_cmp (sI a).toInt64 (sL b)) < 0 ↔ a < b := by
  rw [sI_L ha, lg_cmp_lt, sL_lt (by omega) (by omega)]
theorem st_lrunning {fu : Nat} {a1 a2 : Int32} {A M : mwM} {Lc Lm : mwL} {Sb : Nat → Nat} (h : HS A M Lc Lm Sb) : CaQ mp32 Sb (DX11_running fu a1 a2 A Lc) (DX19_running fu a1 a2 M Lm) := by
  unfold DX11_running DX19_running fX11_running_b37 fX19_running_b21 fX19_running_b26 fX19_running_b50
  rw [m_noCon, mb3_s]
  simp only [mlet_e, mset_s]
  rw [if_neg (show ¬ (1 : Int32) ≤ 0 by decide), if_pos (show (0 : Int32) ≤ 0 by decide)]
  have bad : CaQ mp32 Sb (some ((3, 0), A, Lc)) (some (0, mset M 732 0 1, Lm)) := ⟨3, 0, A, _, Lc, Lm, rfl, rfl, mset_s, HS_0 h⟩
  have n10 : ¬ (1 : Int32) = 0 := by decide
  rcases h.2.2.2.2 with ⟨c1, c2⟩ | ⟨c1, c2, C, S, F, W, R, X, T, t, E, d, tu, g, own, bd, si, p, o, e, ec, tc, fl, c3, c4, c5⟩
  · rw [if_pos c1, if_pos c2, if_neg n10]
    exact bad
  rw [if_neg (show ¬ A 0 5 = 0 by rw [c1]; decide), if_neg (show ¬ M 732 4 = 0 by rw [c2]; decide)]
  obtain ⟨hTk, hTr, hp, hBu, hSl, hCo, _⟩ := id c3
  have s9 := hSl.2.2.2.2.2.2.2.2.1
  have s8 := hSl.2.2.2.2.2.2.2.1
  have hC := hSl.2.2.2.2.2.2.2.2.2.1
  have k16 := hTk.2.2.2.2.2.2.2.2.2.2.2.1
  have k83 := hTk.2.2.2.2.2.2.2.2.2.2.2.2.1
  have kt := hTk.2.2.2.2.2.2.2.2.2.2.2.2.2
  rw [s8, s9, k16, k83]
  by_cases c0 : a1 < 0
  · rw [if_pos c0, if_pos c0, if_neg n10]
    exact bad
  rw [if_neg c0, if_neg c0]
  by_cases cS : a1 < sI C
  rotate_left
  · rw [if_pos (Int32.not_lt.mp cS), if_neg cS, if_neg n10]
    exact bad
  rw [if_neg (show ¬ sI C ≤ a1 from fun z => (Int32.not_lt.mpr z) cS), if_pos cS, if_pos (show (0 : Int32) = 0 from rfl)]
  obtain ⟨c, hc, rfl⟩ := nat_lt' c0 cS (by omega)
  by_cases d0 : a2 < 0
  · rw [if_pos d0, if_pos d0]
    exact bad
  rw [if_neg d0, if_neg d0]
  by_cases dS : a2 < sI t
  rotate_left
  · rw [if_neg dS, if_neg dS]
    exact bad
  rw [if_pos dS, if_pos dS]
  obtain ⟨s, hs, rfl⟩ := nat_lt' d0 dS (by omega)
  obtain ⟨tn, cn, U, cut, hRC, _, r43, _, _, _, _, _, _, hW⟩ := hCo
  obtain ⟨_, _, _, _, _, _, _, rC, _⟩ := hRC
  obtain ⟨v, v1, v2, v3⟩ := hW s hs
  rw [c_who (by omega) (by omega) v1 v2, mb3_s]
  have e2 : DX15_running fu (sI c) (sI s).toInt64 (mset M 732 0 0) Lm = some (sI (v c), mset M 732 0 0, Lm) := by
    unfold DX15_running fX15_running_b12 fX15_running_b29
    rw [if_neg c0, mset_n (show ¬ (787 = 732 ∧ 0 = 0) by omega), rC, if_pos cS, r43, if_neg (show ¬ (lg_cmp (sI s).toInt64 0) < 0 by
      rw [show (0 : Int64) = sL 0 from rfl, lg_lt' (by omega) (by omega)]; omega), if_pos (show (lg_cmp (sI s).toInt64 (sL t)) < 0 by rw [lg_lt' (by omega) (by omega)]; exact hs), show ((sI s).toInt64).toInt32 = sI s by simp, show (20000 : Int32) * sI c + sI s = sI (20000 * c + s) by rw [show (20000 : Int32) * sI c = sI (20000 * c) from sI_lml, sI_add], mck_s (by omega) (by omega), sI_nn (by omega), mset_n (by omega), v3 c hc]
  rw [e2, mb3_s]
  exact ⟨0, _, A, _, Lc, Lm, rfl, rfl, mset_s, HS_0 h⟩
theorem st_ltask {fu : Nat} {a1 a2 : Int32} {A M : mwM} {Lc Lm : mwL} {Sb : Nat → Nat} (h : HS A M Lc Lm Sb) : CaQ mp32 Sb (DX11_task fu a1 a2 A Lc) (DX19_task fu a1 a2 M Lm) := by
  unfold DX11_task DX19_task fX11_task_b25 fX11_task_b44 fX11_task_b74 fX19_task_b20 fX19_task_b33 fX19_task_b38 fX19_task_b92
  simp only [mlet_e, mset_s]
  rw [if_neg (show ¬ (1 : Int32) ≤ 0 by decide), if_neg (show ¬ (2 : Int32) ≤ 0 by decide), if_pos (show (0 : Int32) ≤ 0 by decide)]
  have bad : CaQ mp32 Sb (some ((3, 0), A, Lc)) (some (0, mset M 732 0 1, Lm)) := ⟨3, 0, A, _, Lc, Lm, rfl, rfl, mset_s, HS_0 h⟩
  have bad2 : CaQ mp32 Sb (some ((2, 0), A, Lc)) (some (0, mset M 732 0 2, Lm)) := ⟨2, 0, A, _, Lc, Lm, rfl, rfl, mset_s, HS_0 h⟩
  rcases h.2.2.2.2 with ⟨c1, c2⟩ | ⟨c1, c2, C, S, F, W, R, X, T, t, E, d, tu, g, own, bd, si, p, o, e, ec, tc, fl, c3, c4, c5⟩
  · rw [if_pos c1, if_pos c2]
    exact bad
  rw [if_neg (show ¬ A 0 5 = 0 by rw [c1]; decide), if_neg (show ¬ M 732 4 = 0 by rw [c2]; decide)]
  obtain ⟨hTk, hTr, hp, hBu, hSl, hCo, hCx, h17, _⟩ := id c3
  have w11 := hSl.2.2.2.2.2.2.2.2.2.2.1
  obtain ⟨tn, cn, U, cut, hRC, _, _, kt, _, _, kU, _⟩ := hCo
  obtain ⟨rT, _, _, _, r5, r6, _, rC, _, _, _, _, _, _, _, rI, _⟩ := hRC
  rw [r5, w11]
  by_cases c0 : a1 < 0
  · rw [if_pos c0, if_pos c0]
    exact bad
  rw [if_neg c0, if_neg c0]
  by_cases cS : a1 < sI T
  rotate_left
  · rw [if_neg cS, if_neg cS]
    exact bad
  rw [if_pos cS, if_pos cS]
  obtain ⟨n, hn, rfl⟩ := nat_lt' c0 cS (by omega)
  by_cases d0 : a2 < 0
  · rw [if_pos d0, if_pos d0]
    exact bad2
  rw [if_neg d0, if_neg d0]
  by_cases d4 : a2 ≤ 2
  rotate_left
  · rw [if_neg d4, if_neg d4]
    exact bad2
  rw [if_pos d4, if_pos d4]
  obtain ⟨i, hi, rfl⟩ := nat_le (m := 2) (Int32.not_lt.mp d0) d4 (by omega)
  have ok : ∀ r : Int32, CaQ mp32 Sb (some ((0, r), A, Lc)) (some (r, mset M 732 0 0, Lm)) := fun r => ⟨0, r, A, _, Lc, Lm, rfl, rfl, mset_s, HS_0 h⟩
  obtain ⟨rk, co, pe, mi, nx, st, lf, wa, tu', us, dn, q1, q2, q3⟩ := rI n hn
  have t12 : A 12 n = sI st := q2.2.2.2.2.2.1
  have t16 : A 16 n = sI us := q2.2.2.2.2.2.2.2.2.2.1
  have m96 : M 796 (n + 1) = sI st := q3.2.2.2.2.2.2.2.1
  have m05 : Lm 805 (n + 1) = sL us := q3.2.2.2.2.2.2.2.2.2.2.2.1
  have hus : us < 200000 := by
    have : us < U := q1.2.2.2.2.2.2.2.2.2.2.2.1
    omega
  have ck : ∀ j : Nat, j < 11 → mck (sI j) 11 (mck (sI n) 12 (some (((0 : Nat), A (7 + (sI j).toNatClampNeg) (sI n).toNatClampNeg), A, Lc))) = some ((0, A (7 + j) n), A, Lc) := fun j hj => by
    rw [mck_s hj (by omega), mck_s (by omega) (by omega), sI_nn (by omega), sI_nn (by omega)]
  have : i = 0 ∨ i = 1 ∨ i = 2 := by omega
  rcases this with rfl | rfl | rfl
  · have e2 : DX15_state fu (sI (n + 1)) (mset M 732 0 0) Lm = some (sI st, mset M 732 0 0, Lm) := by
      unfold DX15_state DX15_no fX15_no_b18 fX15_state_b18
      rw [if_neg (show ¬ sI (n + 1) < 1 by rw [sI_ltl (by omega) (by decide)]; omega), mset_n (show ¬ (787 = 732 ∧ 1 = 0) by omega), r6, if_pos (show sI (n + 1) ≤ sI T by rw [sI_le (by omega) (by omega)]; omega), mzz_0, mb3_s, if_pos (show (0 : Int32) = 0 from rfl), mck_s (by omega) (by omega), sI_nn (by omega), mset_n (by omega), m96]
    rw [if_pos (show sI 0 = (0 : Int32) from rfl), if_pos (show sI 0 = (0 : Int32) from rfl), sI_1, e2, mb3_s, show (5 : Int32) = sI 5 from rfl, ck 5 (by omega), t12]
    exact ok _
  · rw [if_neg (show ¬ sI 1 = (0 : Int32) by decide), if_pos (show sI 1 = (1 : Int32) from rfl), if_neg (show ¬ sI 1 = (0 : Int32) by decide), if_pos (show sI 1 = (1 : Int32) from rfl), sI_1, m_used rT hn (by rw [mset_n (by omega)]; exact r6), mb3_s, show (9 : Int32) = sI 9 from rfl, ck 9 (by omega), t16, m05, show (sL us).toInt32 = sI us by
      rw [← sI_L (show us < 2000000000 by omega)]; simp]
    exact ok _
  · rw [if_neg (show ¬ sI 2 = (0 : Int32) by decide), if_neg (show ¬ sI 2 = (1 : Int32) by decide), if_neg (show ¬ sI 2 = (0 : Int32) by decide), if_neg (show ¬ sI 2 = (1 : Int32) by decide), show (10 : Int32) = sI 10 from rfl, ck 10 (by omega), h17 n hn, mck_s (by omega) (by omega), sI_nn (by omega), mset_n (by omega)]
    exact ok _
/-! CALLS: active, value, chart -/
def CaW {α : Type} (mp : Nat → Nat) (Sb : Nat → Nat) (P : Option ((Nat × α) × mwM × mwL)) (Q : Option (α × mwM × mwL)) : Prop := ∃ (w : Nat) (r : α) (A' M' : mwM) (Lc' Lm' : mwL), P = some ((w, r), A', Lc') ∧ Q = some (r, M', Lm') ∧ M' 732 0 = sI (mp w) ∧ HS A' M' Lc' Lm' Sb
theorem c_hasCh {fu : Nat} {a1 : Int32} {A : mwM} {L : mwL} : DX11_hasChart fu a1 A L = some ((if A 0 5 = 0 then 0 else if a1 < 0 then 0 else if A 3 14 ≤ a1 then 0 else 1), A, L) := by
  unfold DX11_hasChart fX11_hasChart_b26 fX11_hasChart_b27
  rw [mzz_0, mzz_1]
  by_cases q1 : A 0 5 = 0
  · rw [if_pos q1, if_pos q1]
  rw [if_neg q1, if_neg q1]
  by_cases q2 : a1 < 0
  · rw [if_pos q2, if_pos q2]
  rw [if_neg q2, if_neg q2]
  by_cases q3 : A 3 14 ≤ a1
  · rw [if_pos q3, if_pos q3]
  · rw [if_neg q3, if_neg q3]
theorem m_noCh {fu : Nat} {a1 : Int32} {M : mwM} {L : mwL} : DX19_noChart fu a1 M L = some ((if M 732 4 = 0 then 1 else if a1 < 0 then 1 else if a1 < M 732 33 then 0 else 1), M, L) := by
  unfold DX19_noChart fX19_noChart_b19 fX19_noChart_b24
  rw [mzz_1, mzz_0]
  by_cases q1 : M 732 4 = 0
  · rw [if_pos q1, if_pos q1]
  rw [if_neg q1, if_neg q1]
  by_cases q2 : a1 < 0
  · rw [if_pos q2, if_pos q2]
  rw [if_neg q2, if_neg q2]
  by_cases q3 : a1 < M 732 33
  · rw [if_pos q3, if_pos q3]
  · rw [if_neg q3, if_neg q3]
/-- a chart that is there, or not, on both sides -/
theorem st_has {fu : Nat} {a1 : Int32} {A M : mwM} {Lc Lm : mwL} {Sb : Nat → Nat} (h : HS A M Lc Lm Sb) : (DX11_hasChart fu a1 A Lc = some (0, A, Lc) ∧ DX19_noChart fu a1 M Lm = some (1, M, Lm)) ∨ ∃ x X t, a1 = sI x ∧ x < X ∧ X ≤ 12 ∧ M 732 33 = sI X ∧ M 732 4 = 1 ∧ DX11_hasChart fu a1 A Lc = some (1, A, Lc) ∧ DX19_noChart fu a1 M Lm = some (0, M, Lm) ∧ CxR A (mset M 732 0 0) Lc Lm t x ∧ QdR A (mset M 732 0 0) Lc Lm x := by
  rw [c_hasCh, m_noCh]
  rcases h.2.2.2.2 with ⟨c1, c2⟩ | ⟨c1, c2, C, S, F, W, R, X, T, t, E, d, tu, g, own, bd, si, p, o, e, ec, tc, fl, c3, c4, c5⟩
  · exact Or.inl ⟨by rw [if_pos c1], by rw [if_pos c2]⟩
  rw [if_neg (show ¬ A 0 5 = 0 by rw [c1]; decide), if_neg (show ¬ M 732 4 = 0 by rw [c2]; decide)]
  by_cases c0 : a1 < 0
  · exact Or.inl ⟨by rw [if_pos c0], by rw [if_pos c0]⟩
  rw [if_neg c0, if_neg c0]
  have c3' := CAR_f (M' := mset M 732 0 0) c3 (fun _ _ _ => rfl) (fun a y u => mset_n (by omega))
  obtain ⟨hTk, hTr, hp, hBu, hSl, hCo, hCx, _⟩ := c3'
  have hX := hTk.2.1.1
  have h33 := hTk.2.1.2.1
  rw [mset_n (by omega)] at h33
  rw [c4, h33]
  by_cases cS : a1 < sI X
  rotate_left
  · exact Or.inl ⟨by rw [if_pos (Int32.not_lt.mp cS)], by rw [if_neg cS]⟩
  obtain ⟨x, hx, rfl⟩ := nat_lt' c0 cS (by omega)
  exact Or.inr ⟨x, X, t, rfl, hx, hX, rfl, c2, by rw [if_neg (show ¬ sI X ≤ sI x from fun z => (Int32.not_lt.mpr z) cS)], by rw [if_pos cS], hCx x hx, hTk.2.2.2.1 x hx⟩
theorem HS_q {A M : mwM} {Lc Lm : mwL} {Sb : Nat → Nat} {x : Nat} (hx : x < 12) (h : HS A M Lc Lm Sb) : HS A (mset (mset M 732 0 0) (964 + 53 * x) 0 0) Lc Lm Sb := HS_e h (fun _ _ _ _ => rfl) (fun a y u1 u2 u3 u4 u5 u6 u7 u8 => by rw [mset_n (by omega), mset_n (by omega)]) (fun _ _ => rfl) (fun _ _ _ => rfl)
theorem st_lactive {fu : Nat} {a1 a2 : Int32} {A M : mwM} {Lc Lm : mwL} {Sb : Nat → Nat} (hfu : 500 ≤ fu) (h54 : H54 M) (h : HS A M Lc Lm Sb) : CaQ mp32 Sb (DX11_active fu a1 a2 A Lc) (DX19_active fu a1 a2 M Lm) := by
  unfold DX11_active DX19_active fX11_active_b28 fX11_active_b71 fX19_active_b23 fX19_active_b28 fX19_active_b52
  have bad : CaQ mp32 Sb (some ((3, 0), A, Lc)) (some (0, mset M 732 0 1, Lm)) := ⟨3, 0, A, _, Lc, Lm, rfl, rfl, mset_s, HS_0 h⟩
  have n10 : ¬ (1 : Int32) = 0 := by decide
  rcases st_has (fu := fu) (a1 := a1) h with ⟨e1, e2⟩ | ⟨x, X, t, rfl, hx, hX, h33, h4, e1, e2, hC, hQ⟩
  · rw [e1, e2, mb3_s, mb3_s, if_pos (show (0 : Int32) = 0 from rfl), if_neg n10, mlet_e, mset_s, if_neg (show ¬ (1 : Int32) ≤ 0 by decide)]
    exact bad
  rw [e1, e2, mb3_s, mb3_s, if_pos (show (0 : Int32) = 0 from rfl), if_neg n10]
  simp only [mlet_e, mset_s]
  rw [if_neg (show ¬ (1 : Int32) ≤ 0 by decide), if_pos (show (0 : Int32) ≤ 0 by decide)]
  by_cases d0 : a2 < 0
  · rw [if_pos d0, if_pos d0]
    exact bad
  rw [if_neg d0, if_neg d0]
  have m12 : ∀ {β : Type} {z : Option β}, mck (sI x) 12 z = z := mck_s (show x < 12 by omega) (by omega)
  obtain ⟨va, ⟨w, p2⟩, nw, hW, ⟨hRc, _⟩, hRm, _⟩ := hC
  have hv : Cv w.1.1 := hW.1
  have r7 : A (293 + 36 * x) 7 = sI (w.1.1 0 0) := hRc.1.1
  have r16 : A (293 + 36 * x) 16 = bI (w.1.2.1 6 0) := hRc.2.2.2.1.2.2.2.2.1
  have m2 : mset M 732 0 0 (964 + 53 * x) 2 = sI (w.1.1 0 0) := hRm.1.1
  rw [mset_n (by omega)] at m2
  have hN : w.1.1 0 0 ≤ 200 := hv.1.1
  rw [m12, m12, m12, m12, m12, sI_nn (by omega), Nat.add_zero, r7, r16, h54 h4 X x h33 hX hx, m2]
  by_cases dS : a2 ≤ sI (w.1.1 0 0)
  rotate_left
  · rw [if_neg dS, if_neg dS]
    exact bad
  rw [if_pos dS, if_pos dS]
  obtain ⟨s, hs, rfl⟩ := nat_le (Int32.not_lt.mp d0) dS (by omega)
  rw [m_active (by omega) hv hRm hs, mb3_s, c_innermost (by omega) hv hRc hs, mb3_s]
  cases q : w.1.2.1 6 0 with
  | false =>
    rw [if_pos (show bI false = 0 from rfl), if_neg (by decide)]
    exact ⟨0, -3, A, _, Lc, Lm, rfl, rfl, by rw [mset_n (by omega), mset_s]; rfl, HS_q (by omega) h⟩
  | true =>
    rw [if_neg (show ¬ bI true = 0 by decide), if_pos rfl]
    exact ⟨0, _, A, _, Lc, Lm, rfl, rfl, by rw [mset_n (by omega), mset_s]; rfl, HS_q (by omega) h⟩
theorem st_lvalue {fu : Nat} {a1 a2 : Int32} {A M : mwM} {Lc Lm : mwL} {Sb : Nat → Nat} (h : HS A M Lc Lm Sb) : CaW mp32 Sb (DX11_value fu a1 a2 A Lc) (DX19_value fu a1 a2 M Lm) := by
  unfold DX11_value DX19_value fX11_value_b18 fX19_value_b19 fX19_value_b24 fX19_value_b48
  have bad : CaW mp32 Sb (some ((3, (0 : Int64)), A, Lc)) (some (0, mset M 732 0 1, Lm)) := ⟨3, 0, A, _, Lc, Lm, rfl, rfl, mset_s, HS_0 h⟩
  have n10 : ¬ (1 : Int32) = 0 := by decide
  rcases st_has (fu := fu) (a1 := a1) h with ⟨e1, e2⟩ | ⟨x, X, t, rfl, hx, hX, h33, h4, e1, e2, hC, hQ⟩
  · rw [e1, e2, mb3_s, mb3_s, if_pos (show (0 : Int32) = 0 from rfl), if_neg n10, mlet_e, mset_s, if_neg (show ¬ (1 : Int32) ≤ 0 by decide)]
    exact bad
  rw [e1, e2, mb3_s, mb3_s, if_pos (show (0 : Int32) = 0 from rfl), if_neg n10]
  simp only [mlet_e, mset_s]
  rw [if_neg (show ¬ (1 : Int32) ≤ 0 by decide), if_pos (show (0 : Int32) ≤ 0 by decide)]
  by_cases d0 : a2 < 0
  · rw [if_pos d0, if_pos d0]
    exact bad
  rw [if_neg d0, if_neg d0]
  have dd : a2 ≤ 31 ↔ a2 < 32 := by
    rw [Int32.le_iff_toInt_le, Int32.lt_iff_toInt_lt]
    show a2.toInt ≤ 31 ↔ a2.toInt < 32
    omega
  by_cases dS : a2 < 32
  rotate_left
  · rw [if_neg dS, if_neg (fun z => dS (dd.mp z))]
    exact bad
  rw [if_pos dS, if_pos (dd.mpr dS)]
  obtain ⟨s, hs, rfl⟩ := nat_lt' (m := 32) d0 dS (by omega)
  have m12 : ∀ {β : Type} {z : Option β}, mck (sI x) 12 z = z := mck_s (show x < 12 by omega) (by omega)
  obtain ⟨_, _, _, _, _, q⟩ := hQ
  unfold DX13_value fX13_value_b15 fX13_value_b25
  rw [m12, m12, mlet_e, if_neg d0, if_pos (dd.mpr dS), mck_s hs (by omega), mck_s hs (by omega), mb3_s, sI_nn (by omega), sI_nn (by omega), q]
  exact ⟨0, _, A, _, Lc, Lm, rfl, rfl, by rw [mset_n (by omega), mset_s]; rfl, HS_q (by omega) h⟩
theorem st_lchart {fu : Nat} {a1 a2 : Int32} {A M : mwM} {Lc Lm : mwL} {Sb : Nat → Nat} (hfu : 500 ≤ fu) (h : HS A M Lc Lm Sb) : CaQ mp32 Sb (DX11_chart fu a1 a2 A Lc) (DX19_chart fu a1 a2 M Lm) := by
  unfold DX11_chart DX19_chart fX11_chart_b28 fX19_chart_b23 fX19_chart_b28 fX19_chart_b81
  have bad : CaQ mp32 Sb (some ((3, 0), A, Lc)) (some (0, mset M 732 0 1, Lm)) := ⟨3, 0, A, _, Lc, Lm, rfl, rfl, mset_s, HS_0 h⟩
  have bad2 : CaQ mp32 Sb (some ((2, 0), A, Lc)) (some (0, mset M 732 0 2, Lm)) := ⟨2, 0, A, _, Lc, Lm, rfl, rfl, mset_s, HS_0 h⟩
  have n10 : ¬ (1 : Int32) = 0 := by decide
  rcases st_has (fu := fu) (a1 := a1) h with ⟨e1, e2⟩ | ⟨x, X, t, rfl, hx, hX, h33, h4, e1, e2, hC, hQ⟩
  · rw [e1, e2, mb3_s, mb3_s, if_pos (show (0 : Int32) = 0 from rfl), if_neg n10, mlet_e, mset_s, if_neg (show ¬ (1 : Int32) ≤ 0 by decide)]
    exact bad
  rw [e1, e2, mb3_s, mb3_s, if_pos (show (0 : Int32) = 0 from rfl), if_neg n10]
  simp only [mlet_e, mset_s]
  rw [if_neg (show ¬ (2 : Int32) ≤ 0 by decide), if_pos (show (0 : Int32) ≤ 0 by decide)]
  by_cases d0 : a2 < 0
  · rw [if_pos d0, if_pos d0]
    exact bad2
  rw [if_neg d0, if_neg d0]
  by_cases dS : a2 ≤ 7
  rotate_left
  · rw [if_neg dS, if_neg dS]
    exact bad2
  rw [if_pos dS, if_pos dS]
  obtain ⟨i, hi, rfl⟩ := nat_le (m := 7) (Int32.not_lt.mp d0) dS (by omega)
  have m12 : ∀ {β : Type} {z : Option β}, mck (sI x) 12 z = z := mck_s (show x < 12 by omega) (by omega)
  obtain ⟨va, ⟨w, p2⟩, nw, hW, ⟨hRc, _⟩, hRm, r13, r751, _⟩ := hC
  have hv : Cv w.1.1 := hW.1
  have r14 : A (293 + 36 * x) 14 = w.2 0 := hRc.2.2.2.1.2.2.1
  have m29 : mset M 732 0 0 (964 + 53 * x) 29 = w.2 0 := hRm.2.2.2.1.2.2.1
  obtain ⟨qn, _, q11, q752, _⟩ := hQ
  dsimp only at r13 r751
  rw [m12, m12, m12, m12, m12, m12, m12, m12, sI_nn (by omega), Nat.add_zero]
  have okq : ∀ r : Int32, CaQ mp32 Sb (some ((0, r), A, Lc)) (some (r, mset (mset M 732 0 0) (964 + 53 * x) 0 0, Lm)) := fun r => ⟨0, r, A, _, Lc, Lm, rfl, rfl, by rw [mset_n (by omega), mset_s]; rfl, HS_q (by omega) h⟩
  have ok : ∀ r : Int32, CaQ mp32 Sb (some ((0, r), A, Lc)) (some (r, mset M 732 0 0, Lm)) := fun r => ⟨0, r, A, _, Lc, Lm, rfl, rfl, mset_s, HS_0 h⟩
  by_cases h3 : 3 ≤ i
  · have e3 : sI i - 3 = sI (i - 3) := sI_sub (b := 3) h3
    rw [if_neg (show ¬ sI i = (0 : Int32) by rw [sI_eql (by omega) (by decide)]; omega), if_neg (show ¬ sI i = (1 : Int32) by rw [sI_eql (by omega) (by decide)]; omega), if_neg (show ¬ sI i = (2 : Int32) by rw [sI_eql (by omega) (by decide)]; omega), if_pos (show (3 : Int32) ≤ sI i by rw [show (3 : Int32) = sI 3 from rfl, sI_le (by omega) (by omega)]; exact h3), e3, c_covered (by omega) hv hRc (by omega), mb3_s, m_covered (by omega) hv hRm (by omega), mb3_s]
    exact okq _
  have : i = 0 ∨ i = 1 ∨ i = 2 := by omega
  rcases this with rfl | rfl | rfl
  · rw [if_pos (show sI 0 = (0 : Int32) from rfl), if_neg (show ¬ (3 : Int32) ≤ sI 0 by decide), if_pos (show sI 0 = (0 : Int32) from rfl), r14]
    unfold DX13_dropped
    rw [mlet_e, mb3_s, mset_n (by omega), m29]
    exact okq _
  · rw [if_neg (show ¬ sI 1 = (0 : Int32) by decide), if_pos (show sI 1 = (1 : Int32) from rfl), if_neg (show ¬ (3 : Int32) ≤ sI 1 by decide), if_neg (show ¬ sI 1 = (0 : Int32) by decide), if_pos (show sI 1 = (1 : Int32) from rfl), q11, q752]
    exact ok _
  · rw [if_neg (show ¬ sI 2 = (0 : Int32) by decide), if_neg (show ¬ sI 2 = (1 : Int32) by decide), if_pos (show sI 2 = (2 : Int32) from rfl), if_neg (show ¬ (3 : Int32) ≤ sI 2 by decide), if_neg (show ¬ sI 2 = (0 : Int32) by decide), if_neg (show ¬ sI 2 = (1 : Int32) by decide), r13, r751]
    exact ok _
