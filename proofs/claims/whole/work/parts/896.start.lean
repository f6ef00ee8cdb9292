/-! JOINING: the car at its start -/
/-- what the class has cleared, and what never changes -/
def J0 (A M : mwM) (Sb : Nat → Nat) (o : Nat → Nat → Nat) : Prop := RCd A M Sb ∧ OcA A ∧ M 870 1 = sI 0 ∧ (A 3 16 = 0 ∧ A 3 17 = -1 ∧ A 3 18 = 0) ∧ (∀ c, c < 6 → A 284 c = 0) ∧ (∀ k, k < 5 → A 292 k = 0) ∧ (A 5 4 = 0 ∧ A 5 6 = 1 ∧ ∀ c, c < 6 → A 18 c = -1) ∧ TfC A tn0 tb0 o ∧ A 275 8 = 0 ∧ ∀ c, c < 6 → A 276 c = 1 ∧ A 277 c = 0 ∧ A 278 c = 0 ∧ A 280 c = 0
theorem st_join {fu n C T X S K R W : Nat} {A M : mwM} {Lc Lm : mwL} {nl : List Nm} {ow ct Sb : Nat → Nat} {o sg : Nat → Nat → Nat} {tu : Nat → Bool} {ky rd wt : Nat → Nat → Nat} (F0 F1 : mwM → mwL → Option (Int32 × mwM × mwL)) (hfu : 150000 ≤ fu) (hP : PR A M Lc Lm n C T X S K R W nl ow ct sg tu ky rd wt) (hZ : JZ A M) (hJ : J0 A M Sb o) (hC0 : 0 < C) (hno : ∀ s, s < S → ¬ TLg (sg 0) (fun s => kyf (ky 0) (ky 1) (ky 2) (ow (ct (sg 2 s))) (sg 1 s) K 0) s) : ∃ (A' M' : mwM) (Lm' : mwL) (F : Nat) (d g : Nat → Nat → Nat) (own bd : Nat → Nat) (si : Nat → Bool) (p : PB) (e ec tc fl : Nat → Nat), DX1_join fu A Lc = some (A', Lc) ∧ mb3 (DX19_join fu M Lm) (fun r23 M21 L22 => (if r23 = 0 then F0 M21 L22 else mb3 (DX19_build fu M21 L22) (fun r27 M25 L26 => (if r27 = 0 then F0 M25 L26 else F1 M25 L26)))) = F1 M' Lm' ∧ CAR A' M' Lc Lm' C S F W R X T 0 0 d tu g own Sb bd si p o e ec tc fl ∧ (∀ q, q < 12 → ∀ y, y ≤ 40 → M' (941 + 53 * q + 8) y = 0) ∧ PrB M' Lc Lm' ∧ (∀ a y, ¬ (20 ≤ a ∧ a ≤ 60) → ¬ (70 ≤ a ∧ a ≤ 80) → ¬ (86 ≤ a ∧ a ≤ 94) → ¬ (101 ≤ a ∧ a ≤ 138) → ¬ (a = 61 ∧ (y = 11 ∨ y = 13 ∨ y = 14)) → ¬ (293 ≤ a ∧ (a - 293) % 36 = 25) → A' a y = A a y) ∧ (∀ a y, a < 766 → ¬ (a = 732 ∧ (y = 67 ∨ y = 11 ∨ y = 12 ∨ 83 ≤ y)) → M' a y = M a y) ∧ ∀ c, si c = false := by
  obtain ⟨jR, jO, j870, ⟨j16, j17, j18⟩, j284, j292, ⟨j54, j56, jc⟩, jT, j275, jQ⟩ := hJ
  obtain ⟨A1, M1, F, d, k1, k2, kF, kH, kD, kS, k10, k86, d0, d1, d2, d4, d5, k8, fA1, fM1⟩ := st_packs (fu := fu) (by omega) hP hZ hno
  obtain ⟨⟨c1, c2, c3⟩, pT, pX, pB, ⟨s1, s2, s3, s4⟩, pK, pR, pW, pN, nB⟩ := id hP
  obtain ⟨t1, t2, t3, t4, t5⟩ := id pT
  obtain ⟨x1, x2, x3, x4, x5⟩ := id pX
  -- the reference: cores, bus, transfer
  have m19 : M1 732 19 = sI C := by rw [fM1 _ _ (by omega) (by omega) (by omega) (by omega)]; exact c2
  obtain ⟨M2, L2, a1, a2, a3, a4, a5, a6, a7⟩ := wq_ex (m_anew15 (fu := fu) (M := M1) (L := Lm) (C := C) (by omega))
  dsimp only at a2 a3 a4 a5 a6 a7
  have A1_13 : A1 3 13 = sI C := by rw [fA1 _ _ (by omega) (by omega) (by omega)]; exact c1
  obtain ⟨A3, M3, b1, b2, bR, b4, fA3, fM3⟩ := st_begin (fu := fu) (N := C + 1) (ow := fun _ => 0) (id := fun _ => 0) (oc := fun _ _ => 0) (dn := fun _ => 0) (A := A1) (M := M2) (Lc := Lc) (Lm := L2) hfu (by omega) (by omega) (fun n hn => by
    obtain ⟨q, hq⟩ := jO n hn
    exact ⟨q, OcR_f hq (fun y => fA1 _ _ (by omega) (by omega) (by omega))⟩)
  have m870 : M3 870 1 = sI 0 := by rw [fM3 _ _ (by omega), a6 _ _ (by omega), fM1 _ _ (by omega) (by omega) (by omega) (by omega)]; exact j870
  obtain ⟨M4, L4, g1, g2, g3, g4⟩ := wq_ex (m_anew17 (fu := fu) (M := M3) (L := L2) (o := o) (by omega) m870)
  dsimp only at g2 g3 g4
  have FM4 : ∀ a y, (a < 787 ∨ 853 < a) → ¬ (869 ≤ a ∧ a ≤ 901) → M4 a y = M1 a y := fun a y u1 u2 => by rw [g3 a y u2, fM3 a y (by omega), a6 a y (by omega)]
  have FL4 : ∀ a y, (a < 787 ∨ 820 < a) → a ≠ 869 → L4 a y = Lm a y := fun a y u1 u2 => by rw [g4 a y u2, a7 a y u1]
  -- the class: keys and domains
  have FA3 : ∀ a y, ¬ (20 ≤ a ∧ a ≤ 60) → ¬ (70 ≤ a ∧ a ≤ 80) → ¬ (86 ≤ a ∧ a ≤ 94) → ¬ (a = 61 ∧ (y = 11 ∨ y = 13 ∨ y = 14)) → A3 a y = A a y := fun a y u1 u2 u3 u4 => by rw [fA3 a y u1, fA1 a y u2 u3 u4]
  have R3 : RCd A3 M4 Sb := RCd_fr jR (fun a y u1 u2 => FA3 a y (by omega) (by omega) (by omega) (by omega)) (fun a y u => by rw [FM4 a y (by omega) (by omega), fM1 a y (by omega) (by omega) (by omega) (by omega)])
  obtain ⟨A5, L5, e1, e2, e3, e4, e5, e6⟩ := wq_ex (c_learn3 (fu := fu) (key := 16) (L := Lc) (by omega) (by omega) R3)
  dsimp only at e2 e3 e4 e5 e6
  subst e2
  have F40 := kF.2.2.2.2.2.1
  have A3_11 : A5 61 11 = sI F := by rw [e6 _ _ (by omega), fA3 _ _ (by omega)]; exact kF.2.2.2.1
  have hlo : ∀ f, f < F → A5 76 f = sI (d 12 f) ∧ d 12 f ≤ 16 := fun f hf => by
    rw [e6 _ _ (by omega), fA3 _ _ (by omega)]
    exact ⟨(kF.2.2.2.2.2.2.1 f hf).1.2.2.1, FrS_lo kF hf⟩
  have cl : wq (fX1_join_h35 fu fu (0, A5, L5)) (fun z => z.2 = L5 ∧ RCd z.1 M4 Sb ∧ KnC z.1 Sb 16 ∧ (∀ f, f < F → d 12 f ≠ 0 → KnC z.1 Sb (d 12 f)) ∧ (∀ x, x < X → ∀ c, Cv c → TrC A (293 + 36 * x) (c 0 0) (c 1) (c 2) (c 3) → EdC A (293 + 36 * x) (c 0 1) (c 4) (c 5) (c 6) (c 7) → DoC (293 + 36 * x) z.1 c) ∧ ∀ a y, ¬ (101 ≤ a ∧ a ≤ 138) → ¬ (293 ≤ a ∧ (a - 293) % 36 = 25) → z.1 a y = A3 a y) := c_learnL (A := A5) (M := M4) (S := Sb) (lo := d 12) (by omega) F40 A3_11 hlo e3 e4 (fun A6 r1 r2 r3 r4 => by
    have fr : ∀ a y, 293 ≤ a → A6 a y = A a y := fun a y u => by rw [r4 a y (by omega), e6 a y (by omega), FA3 a y (by omega) (by omega) (by omega) (by omega)]
    have tr : ∀ (x : Nat) (c : Nat → Nat → Nat), TrC A (293 + 36 * x) (c 0 0) (c 1) (c 2) (c 3) → TrC A6 (293 + 36 * x) (c 0 0) (c 1) (c 2) (c 3) := fun x c h => ⟨by rw [fr _ _ (by omega)]; exact h.1, fun s hs => by
      rw [fr _ _ (by omega), fr _ _ (by omega), fr _ _ (by omega)]
      exact h.2 s hs⟩
    have ed : ∀ (x : Nat) (c : Nat → Nat → Nat), EdC A (293 + 36 * x) (c 0 1) (c 4) (c 5) (c 6) (c 7) → EdC A6 (293 + 36 * x) (c 0 1) (c 4) (c 5) (c 6) (c 7) := fun x c h => ⟨by rw [fr _ _ (by omega)]; exact h.1, fun e e1 e2 => by
      rw [fr _ _ (by omega), fr _ _ (by omega), fr _ _ (by omega), fr _ _ (by omega)]
      exact h.2 e e1 e2⟩
    obtain ⟨A7, L7, q1, q2, q3, q4⟩ := wq_ex (c_domL (fu := fu) (A := A6) (X := X) (L := L5) (by omega) x3 (by rw [r4 _ _ (by omega), e6 _ _ (by omega), FA3 _ _ (by omega) (by omega) (by omega) (by omega)]; exact x1) (fun x hx => by
      obtain ⟨_, _, _, _, _, c, va, D, xx, v6, v7, _⟩ := (x4 x hx).2.2.2
      exact ⟨c, v6, tr x c v7.1, ed x c v7.2.1⟩))
    dsimp only at q2 q3 q4
    exact ⟨_, q1, q2, RCd_fr r1 (fun a y u1 u2 => q4 a y (by omega)) (fun _ _ _ => rfl), KnC_f r2 (by omega) (fun a y u1 u2 => q4 a y (by omega)), fun f hf h0 => KnC_f (r3 f hf h0) (hlo f hf).2 (fun a y u1 u2 => q4 a y (by omega)), fun x hx c h1 h2 h3 => q3 x hx c h1 (tr x c h2) (ed x c h3), fun a y u1 u2 => by dsimp only; rw [q4 a y u2, r4 a y u1, e6 a y u1]⟩)
  obtain ⟨A7, L7, f1, f2, f3, f4, f5, f6, f7⟩ := wq_ex cl
  dsimp only at f2 f3 f4 f5 f6 f7
  subst f2
  have FA1 : ∀ a y, ¬ (20 ≤ a ∧ a ≤ 60) → ¬ (101 ≤ a ∧ a ≤ 138) → ¬ (293 ≤ a ∧ (a - 293) % 36 = 25) → A7 a y = A1 a y := fun a y u1 u2 u3 => by rw [f7 a y u2 u3, fA3 a y u1]
  have FA : ∀ a y, ¬ (20 ≤ a ∧ a ≤ 60) → ¬ (70 ≤ a ∧ a ≤ 80) → ¬ (86 ≤ a ∧ a ≤ 94) → ¬ (101 ≤ a ∧ a ≤ 138) → ¬ (a = 61 ∧ (y = 11 ∨ y = 13 ∨ y = 14)) → ¬ (293 ≤ a ∧ (a - 293) % 36 = 25) → A7 a y = A a y := fun a y u1 u2 u3 u4 u5 u6 => by rw [FA1 a y u1 u4 u6, fA1 a y u2 u3 u5]
  have FAs : ∀ a y, (a < 20 ∨ (139 ≤ a ∧ a < 293)) → A7 a y = A a y := fun a y u => FA a y (by omega) (by omega) (by omega) (by omega) (by omega) (by omega)
  -- the reference: tasks
  have ht : ∀ j, j < T → nn (A 7 j) < 256 ∧ ow j < C ∧ 500 ≤ nn (A 9 j) ∧ nn (A 9 j) ≤ 20000 ∧ nn (A 11 j) < nn (A 9 j) ∧ 1 ≤ nn (A 10 j) ∧ nn (A 10 j) ≤ 1000 ∧ A 7 j = sI (nn (A 7 j)) ∧ M 743 j = sI (nn (A 7 j)) ∧ A 9 j = sI (nn (A 9 j)) ∧ M 744 j = sI (nn (A 9 j)) ∧ A 11 j = sI (nn (A 11 j)) ∧ M 745 j = sI (nn (A 11 j)) ∧ A 10 j = sI (nn (A 10 j)) ∧ M 746 j = sI (nn (A 10 j)) := fun j hj => by
    obtain ⟨_, _, q3, ⟨pr, pe, ou, wk, p1, p2, p3, p4, p5, p6, p7, p8, p9, p10, p11, p12, p13, p14⟩, _⟩ := t4 j hj
    rw [p1, p4, p8, p11, nn_s (show pr < 2000000000 by omega), nn_s (show pe < 2000000000 by omega), nn_s (show ou < 2000000000 by omega), nn_s (show wk < 2000000000 by omega)]
    exact ⟨by omega, q3, p6, p7, p10, p13, p14, rfl, p2, rfl, p5, rfl, p9, rfl, p12⟩
  have M4s : ∀ a y, a < 766 → ¬ (a = 732 ∧ (y = 67 ∨ y = 11 ∨ y = 12)) → M4 a y = M a y := fun a y u1 u2 => by rw [FM4 a y (by omega) (by omega), fM1 a y (by omega) (by omega) u2 (by omega)]
  have ts : wq (fX19_build_h36 fu fu (0, M4, L4)) (fun z => z.1 = 1 ∧ RCo A7 z.2.1 z.2.2 T C 0 ∧ b4M z.2.1 ∧ (∀ k, k < 240 → z.2.2 786 k = 0) ∧ (∀ a y, a ≠ 786 → (a < 787 ∨ 820 < a) → z.2.2 a y = L4 a y) ∧ (z.2.1 732 83 = 0 ∧ z.2.1 732 88 = 0 ∧ z.2.1 732 91 = 0 ∧ z.2.1 732 94 = 0 ∧ z.2.1 732 95 = 0 ∧ z.2.1 732 96 = 0 ∧ z.2.1 732 97 = -1 ∧ z.2.1 732 98 = 0 ∧ z.2.1 732 108 = 0) ∧ ∀ a y, a ≠ 923 → a ≠ 924 → ¬ (934 ≤ a ∧ a ≤ 939) → ¬ (a = 732 ∧ 83 ≤ y) → (a < 787 ∨ 820 < a) → z.2.1 a y = M4 a y) := m_tasks (rk := fun j => nn (A 7 j)) (co := ow) (pe := fun j => nn (A 9 j)) (off := fun j => nn (A 11 j)) (mi := fun j => nn (A 10 j)) (C := C) (T := T) (by omega) t3 c3 (by rw [M4s _ _ (by omega) (by omega)]; exact t2) (fun j hj => by
      obtain ⟨q1, q2, q3, q4, q5, q6, q7, q8, q9, q10, q11, q12, q13, q14, q15⟩ := ht j hj
      rw [M4s _ _ (by omega) (by omega), M4s _ _ (by omega) (by omega), M4s _ _ (by omega) (by omega), M4s _ _ (by omega) (by omega), M4s _ _ (by omega) (by omega)]
      exact ⟨q9, (t4 j hj).2.1, q11, q13, q15, q1, q2, q3, q4, q5, q6, q7⟩) (by
      obtain ⟨z1, z2, z3, z4, z5, z6, z7, z8, z9⟩ := a2
      have m4 : ∀ a y, 787 ≤ a → a ≤ 820 → M4 a y = M2 a y := fun a y u1 u2 => by rw [g3 a y (by omega), fM3 a y (by omega)]
      have l4 : ∀ a y, 787 ≤ a → a ≤ 820 → L4 a y = L2 a y := fun a y u1 u2 => g4 a y (by omega)
      refine ⟨by rw [m4 _ _ (by omega) (by omega)]; exact z1, by rw [l4 _ _ (by omega) (by omega)]; exact z2, by rw [l4 _ _ (by omega) (by omega)]; exact z3, by rw [m4 _ _ (by omega) (by omega)]; exact z4, by rw [m4 _ _ (by omega) (by omega)]; exact z5, by rw [m4 _ _ (by omega) (by omega)]; exact z6, fun r r1 r2 => by rw [m4 _ _ (by omega) (by omega)]; exact z7 r r1 r2, fun r r1 r2 => by rw [m4 _ _ (by omega) (by omega)]; exact z8 r r1 r2, fun t ht => ?_⟩
      rw [m4 _ _ (by omega) (by omega), m4 _ _ (by omega) (by omega), m4 _ _ (by omega) (by omega), m4 _ _ (by omega) (by omega), l4 _ _ (by omega) (by omega)]
      exact z9 t ht) (by rw [g3 _ _ (by omega), fM3 _ _ (by omega)]; exact a3) (by rw [g3 _ _ (by omega), fM3 _ _ (by omega)]; exact a4) (by rw [g3 _ _ (by omega), fM3 _ _ (by omega)]; exact a5) (fun M' L' r z1 z2 z3 z4 z5 z6 z7 z8 => by
      obtain ⟨⟨rr, M8, L8⟩, y1, y2, y3, y4, y5, y6, y7⟩ := m_btail (fu := fu) (T := T) (M := M') (L := L') (r := r) (by omega) t3 (by rw [z7 _ _ (by omega), M4s _ _ (by omega) (by omega)]; exact t2)
      dsimp only at y2 y3 y4 y5 y6 y7
      have rc : RCo A7 M' L' T C 0 := RCo_0 (rk := fun j => nn (A 7 j)) (co := ow) (pe := fun j => nn (A 9 j)) (off := fun j => nn (A 11 j)) (mi := fun j => nn (A 10 j)) t3 c3 ⟨by rw [FAs _ _ (by omega)]; exact t1, by rw [FAs _ _ (by omega)]; exact j54, by rw [FAs _ _ (by omega)]; exact j56, fun c hc => by rw [FAs _ _ (by omega)]; exact jc c hc, fun j hj => by
        obtain ⟨q1, q2, q3, q4, q5, q6, q7, q8, q9, q10, q11, q12, q13, q14, q15⟩ := ht j hj
        obtain ⟨w1, _, _, _, w5, _⟩ := t4 j hj
        exact ⟨by rw [FAs _ _ (by omega)]; exact q8, by rw [FAs _ _ (by omega)]; exact w1, by rw [FAs _ _ (by omega)]; exact q10, by rw [FAs _ _ (by omega)]; exact q14, by rw [FAs _ _ (by omega)]; exact q12, by rw [FAs _ _ (by omega)]; exact w5 12 (by omega) (by omega), by rw [FAs _ _ (by omega)]; exact w5 13 (by omega) (by omega), by rw [FAs _ _ (by omega)]; exact w5 14 (by omega) (by omega), by rw [FAs _ _ (by omega)]; exact w5 15 (by omega) (by omega), by rw [FAs _ _ (by omega)]; exact w5 16 (by omega) (by omega), by rw [FAs _ _ (by omega)]; exact w5 17 (by omega) (by omega)⟩⟩ (fun j hj => by
        obtain ⟨q1, q2, q3, q4, q5, q6, q7, _⟩ := ht j hj
        exact ⟨q1, q2, q3, q4, q5, q6, q7⟩) z1 z2 z3 z4 z5 z6
      exact ⟨_, y1, y2, RCo_w rc (fun _ _ _ _ => rfl) (fun a y u1 u2 => y7 a y (by omega) (by omega) (by omega) (by omega)) (fun a y u1 u2 => y5 a y (by omega)), y3, y4, fun a y u1 u2 => by dsimp only; rw [y5 a y u1, z8 a y u2], y6, fun a y u1 u2 u3 u4 u5 => by dsimp only; rw [y7 a y u1 u2 u3 u4, z7 a y u5]⟩)
  obtain ⟨rr, M8, L8, h1, h2, hCo, ⟨n24, n39, n6⟩, h786, hL8, ⟨n83, n88, n91, n94, n95, n96, n97, n98, n108⟩, hM8⟩ := wq_e3 ts
  dsimp only at h2 hCo n24 n39 n6 h786 hL8 n83 n88 n91 n94 n95 n96 n97 n98 n108 hM8
  subst h2
  have FM : ∀ a y, (a < 787 ∨ 853 < a) → ¬ (869 ≤ a ∧ a ≤ 901) → a ≠ 923 → a ≠ 924 → ¬ (934 ≤ a ∧ a ≤ 939) → ¬ (a = 732 ∧ 83 ≤ y) → M8 a y = M1 a y := fun a y u1 u2 u3 u4 u5 u6 => by rw [hM8 a y u3 u4 u5 u6 (by omega), FM4 a y u1 u2]
  have FM0 : ∀ a y, (a < 787 ∨ 853 < a) → ¬ (869 ≤ a ∧ a ≤ 901) → a ≠ 923 → a ≠ 924 → ¬ (934 ≤ a ∧ a ≤ 939) → ¬ (a = 732 ∧ 83 ≤ y) → (a < 941 ∨ 23 ≤ (a - 941) % 53 ∨ 1577 ≤ a) → ¬ (766 ≤ a ∧ a ≤ 768) → ¬ (a = 732 ∧ (y = 67 ∨ y = 11 ∨ y = 12)) → ¬ (779 ≤ a ∧ a ≤ 785) → M8 a y = M a y := fun a y u1 u2 u3 u4 u5 u6 u7 u8 u9 u10 => by rw [FM a y u1 u2 u3 u4 u5 u6, fM1 a y u7 u8 u9 u10]
  have FMs : ∀ a y, a < 766 → ¬ (a = 732 ∧ (y = 67 ∨ y = 11 ∨ y = 12 ∨ 83 ≤ y)) → M8 a y = M a y := fun a y u1 u2 => FM0 a y (by omega) (by omega) (by omega) (by omega) (by omega) (by omega) (by omega) (by omega) (by omega) (by omega)
  have FMc : ∀ a y, 964 ≤ a → (a - 964) % 53 ≤ 29 → M8 a y = M a y := fun a y u1 u2 => FM0 a y (by omega) (by omega) (by omega) (by omega) (by omega) (by omega) (by omega) (by omega) (by omega) (by omega)
  have FL : ∀ a y, a ≠ 786 → (a < 787 ∨ 820 < a) → a ≠ 869 → L8 a y = Lm a y := fun a y u1 u2 u3 => by rw [hL8 a y u1 u2, FL4 a y u2 u3]
  have FL' : ∀ a, a ≠ 786 → (a < 787 ∨ 820 < a) → a ≠ 869 → L8 a = Lm a := fun a u1 u2 u3 => by
    funext y
    exact FL a y u1 u2 u3
  refine ⟨A7, M8, L8, F, d, fun i => if i < 4 then rd i else wt (i - 4), fun x => ow (ct x), fun _ => 0, fun _ => false, (tn0, tb0), fun _ => 0, z0, z0, z0, ?_, ?_, ?_, fun q hq y hy => ?_, PrB_f pB (fun a u1 u2 => FMc a 0 u1 (by omega)) (fun _ _ _ _ _ => rfl) (fun a y u1 u2 u3 => FL a y (by omega) (by omega) (by omega)), FA, FMs, fun _ => rfl⟩
  · unfold DX1_join
    rw [c1, k1, mb2_s, A1_13, sI_1, b1, mb2_s, show (16 : Int32) = sI 16 from rfl, e1, mb2_s, f1]
  · rw [k2, mb3_s, if_neg (show ¬ (1 : Int32) = 0 by decide)]
    unfold DX19_build
    rw [m19, a1, mb2_s, a6 732 19 (by omega), m19, sI_1, b2, mb2_s, g1, mb2_s, h1, mb3_s, if_neg (show ¬ (1 : Int32) = 0 by decide)]
  rotate_left
  · rw [FM _ _ (by omega) (by omega) (by omega) (by omega) (by omega) (by omega)]
    exact k8 q hq y hy
  obtain ⟨w1, w2, w3, w4⟩ := pW
  refine ⟨⟨FrS_f kF (fun a y u => FA1 a y (by omega) (by omega) (by omega)) (fun a y u => FM a y (by omega) (by omega) (by omega) (by omega) (by omega) (by omega)), ⟨x3, by rw [FMs _ _ (by omega) (by omega)]; exact x2, fun x hx => ?_, fun x u1 u2 => by rw [FA _ _ (by omega) (by omega) (by omega) (by omega) (by omega) (by omega)]; exact x5 x u1 u2⟩, RdR_f pR (fun a y u => FAs a y (by omega)) (fun a y u => FM0 a y (by omega) (by omega) (by omega) (by omega) (by omega) (by omega) (by omega) (by omega) (by omega) (by omega)) (fun _ => rfl) (fun y => FL _ y (by omega) (by omega) (by omega)), fun x hx => ?_, WtR_f w1 (fun a y u => FAs a y (by omega)) (fun a y u => FM0 a y (by omega) (by omega) (by omega) (by omega) (by omega) (by omega) (by omega) (by omega) (by omega) (by omega)) (fun y => FL _ y (by omega) (by omega) (by omega)), RTr_fr w2 (fun a y u1 u2 => FAs a y (by omega)) (fun a y u1 u2 _ => FM0 a y (by omega) (by omega) (by omega) (by omega) (by omega) (by omega) (by omega) (by omega) (by omega) (by omega)), RCd_fr f3 (fun _ _ _ _ => rfl) (fun a y u => hM8 a y (by omega) (by omega) (by omega) (by omega) (by omega)), f5, fun f hf c hc => ⟨0, Nat.zero_le _, by rw [FA1 _ _ (by omega) (by omega) (by omega)]; exact k86 f hf c hc, h786 _ (by omega)⟩, by rw [FAs _ _ (by omega), j292 1 (by omega), n39 1 (by omega)], by rw [FAs _ _ (by omega), j292 2 (by omega), n39 2 (by omega)], by rw [FAs _ _ (by omega)]; exact j16, n83, by omega⟩, ⟨V_00, TfC_w jT (by decide) (fun a y u1 u2 => FAs a y (by omega)), TfM_fr g2 (fun a y u1 u2 u3 u4 => hM8 a y (by omega) (by omega) (by omega) (by omega) (by omega)) (fun a y u1 u2 => hL8 a y (by omega) (by omega)), ⟨n88, fun m u1 u2 => absurd u2 (by show ¬ m ≤ 0; omega), n95, ⟨0, n96, by omega, rfl⟩, n94, n91, fun k hk => absurd hk (Nat.not_lt_zero k), by decide⟩, ⟨fun m u1 u2 => absurd u2 (by show ¬ m ≤ 0; omega), fun r hr h1 => absurd h1 (by show ¬ (0 : Nat) = 1; omega)⟩, fun m u1 u2 => absurd u2 (by show ¬ m ≤ 0; omega), by rw [FAs _ _ (by omega), j17, n97], by rw [FAs _ _ (by omega), j292 3 (by omega), n39 3 (by omega)], Or.inl ⟨by rw [FAs _ _ (by omega)]; exact j18, n98⟩, ⟨by rw [FAs _ _ (by omega), j275, n108], fun c hc => ?_⟩, f4, fun f u1 u2 => absurd u2 (by show ¬ f < 0; omega)⟩, rfl, BusE_fr ⟨0, _, _, _, _, true, bR⟩ (fun a y u1 u2 => f7 a y (by omega) (by omega)) (fun a y u1 u2 u3 => by rw [hM8 a y (by omega) (by omega) (by omega) (by omega) (by omega), g3 a y (by omega)]), ⟨fun f hf => HdF_f (kH f hf) (fun a y u1 u2 => FM a y (by omega) (by omega) (by omega) (by omega) (by omega) (by omega)), fun f hf => ?_, ?_, k10, fun s hs => ?_, fun c hc => ⟨by rw [FAs _ _ (by omega)]; exact j284 c hc, (n6 c hc).1⟩, fun w hw => ?_, by rw [FMs _ _ (by omega) (by omega)]; exact c2, by rw [FAs _ _ (by omega)]; exact c1, c3, by rw [FMs _ _ (by omega) (by omega)]; exact t2, fun i hi => ?_, fun i hi => ?_⟩, hCo, fun x hx => ?_, fun i hi => ?_, fun k hk => n24 k (by omega), by rw [FAs _ _ (by omega), j292 0 (by omega), n39 0 (by omega)], by rw [FAs _ _ (by omega), j292 4 (by omega), n39 4 (by omega)], Nat.zero_le _, fun c hc => Nat.zero_le _⟩
  · obtain ⟨y1, y2, y3, _⟩ := x4 x hx
    have := (t4 _ y2).2.2.1
    exact ⟨by dsimp only; omega, by rw [FA _ _ (by omega) (by omega) (by omega) (by omega) (by omega) (by omega)]; exact y3, ct x, by omega, by rw [FMs _ _ (by omega) (by omega)]; exact y1, by rw [FMs _ _ (by omega) (by omega)]; exact (t4 _ y2).2.1⟩
  · obtain ⟨v1, v2, v3, v4, v5, c, va, D, xx, v6, v7, v8, _⟩ := (x4 x hx).2.2.2
    refine ⟨0, by omega, by rw [FA _ _ (by omega) (by omega) (by omega) (by omega) (by omega) (by omega)]; exact v1, by rw [FMs _ _ (by omega) (by omega)]; exact v4, fun i hi => absurd hi (by omega), ?_⟩
    have r3 := v7.2.2.2.1.2.2.2.2.2
    have r2 := v8.2.2.2.1.2.2.2.2.2.1
    rw [r3, FL' _ (by omega) (by omega) (by omega), r2]
  · obtain ⟨y1, y2, y3, y4⟩ := jQ c hc
    obtain ⟨_, m4, m5, m6, _, m8⟩ := n6 c hc
    exact ⟨1, 0, false, false, by omega, by omega, by omega, by rw [FAs _ _ (by omega)]; exact y1, m4, by rw [FAs _ _ (by omega)]; exact y2, m5, by rw [FAs _ _ (by omega)]; exact y3, m6, fun z => absurd z (by decide), by rw [FAs _ _ (by omega)]; exact y4, m8⟩
  · obtain ⟨⟨nn', y1, y2, y3⟩, y4⟩ := kD f hf
    exact ⟨⟨nn', by rw [FA1 _ _ (by omega) (by omega) (by omega)]; exact y1, by rw [FM _ _ (by omega) (by omega) (by omega) (by omega) (by omega) (by omega)]; exact y2, y3⟩, by rw [FA1 _ _ (by omega) (by omega) (by omega)]; exact y4⟩
  · obtain ⟨m, y1, y2⟩ := kS
    exact ⟨m, by rw [FA1 _ _ (by omega) (by omega) (by omega)]; exact y1, y2⟩
  · rw [d4]
    exact (s4 s hs).2.2.1.2.2
  · rw [FAs _ _ (by omega), d1]
    exact w3 w hw
  · rw [FAs _ _ (by omega), FMs _ _ (by omega) (by omega)]
    exact (t4 i hi).2.2.2.2.2.2
  · obtain ⟨q1, q2, q3, q4, q5, q6, q7, q8, q9, q10, q11, q12, q13, q14, q15⟩ := ht i hi
    rw [FAs _ _ (by omega), FMs _ _ (by omega) (by omega), q14, q15]
  · obtain ⟨v1, v2, v3, v4, v5, c, va, D, xx, v6, v7, v8, v9, v10, v11, v12, v13⟩ := (x4 x hx).2.2.2
    refine ⟨va, (((c, b00, D), xx), 0), 0, ⟨v6, fun s hs => (by show c 14 s ≤ 20000; rw [(v13 s hs).2]; omega), fun z => absurd z (by show ¬ false = true; decide), fun _ => ⟨rfl, fun s hs => (v13 s hs).1⟩⟩, ⟨ReC_f v7 (fun a y u1 u2 _ _ u5 _ => FA a y (by omega) (by omega) (by omega) (by omega) (by omega) (by omega)) rfl, f6 x hx c v6 v7.1 v7.2.1⟩, ReM_f v8 (fun a y u1 u2 _ => FMc a y (by omega) (by omega)) (fun a u1 u2 => FL' a (by omega) (by omega) (by omega)), by rw [FA _ _ (by omega) (by omega) (by omega) (by omega) (by omega) (by omega)]; exact v2, by rw [FMs _ _ (by omega) (by omega)]; exact v3, by rw [FL _ _ (by omega) (by omega) (by omega)]; exact v5, by omega⟩
  · rw [FAs _ _ (by omega), FMs _ _ (by omega) (by omega), (t4 i hi).2.2.2.2.2.1]
    exact (t4 i hi).2.2.2.2.1 17 (by omega) (by omega)
