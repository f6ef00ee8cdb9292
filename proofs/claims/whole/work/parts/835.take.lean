/-! a frame has come -/
theorem ChO_f {A A' M M' : mwM} {X : Nat} {own : Nat → Nat} (h : ChO A M X own) (hA : ∀ x, x < 12 → A' (293 + 36 * x) 5 = A (293 + 36 * x) 5) (hM : ∀ a y, (a = 732 ∧ y = 33) ∨ a = 749 ∨ a = 742 → M' a y = M a y) : ChO A' M' X own := by
  obtain ⟨h1, h2, h3, h4⟩ := h
  refine ⟨h1, by rw [hM _ _ (by omega)]; exact h2, fun x hx => ?_, fun x hx hx2 => by rw [hA x hx2]; exact h4 x hx hx2⟩
  obtain ⟨k1, k2, t, k3, k4, k5⟩ := h3 x hx
  exact ⟨k1, by rw [hA x (by omega)]; exact k2, t, k3, by rw [hM _ _ (by omega)]; exact k4, by rw [hM _ _ (by omega)]; exact k5⟩
theorem st_reads {fu c f row n3 S F R X : Nat} {d : Nat → Nat → Nat} {tu : Nat → Bool} {rs rc rd re own ov : Nat → Nat} (hfu : 100 ≤ fu) (hc : c < 6) (hf : f < 40) (hrow : row < 61) (hn3 : 8 ≤ n3) (hn4 : n3 < 1000) : ∀ (k r q q' : Nat) (A M : mwM) (Lc Lm : mwL), r + k = R → k < q → k < q' → FrS A M S F d tu → ChO A M X own → RdR A M Lc Lm R S X rs rc rd re → (∀ x, x < X → QdR A M Lc Lm x) → A 292 2 = M 939 2 → (∀ y, y < 8 → A row y = sI (ov y) ∧ M 926 y = sI (ov y) ∧ ov y < 256) → ∃ A' Lc' M' Lm', fX1_takeSignals_h117 fu (sI c) (sI f) row n3 q (sI r, A, Lc) = some (A', Lc') ∧ fX19_come_h90 fu (sI c) (sI f) q' (sI r, M, Lm) = some (M', Lm') ∧ FrS A' M' S F d tu ∧ ChO A' M' X own ∧ RdR A' M' Lc' Lm' R S X rs rc rd re ∧ (∀ x, x < X → QdR A' M' Lc' Lm' x) ∧ A' 292 2 = M' 939 2 ∧ tkA A A' ∧ tkM M M' ∧ tkLc Lc Lc' ∧ tkLm Lm Lm' := by
  intro k
  induction k with
  | zero =>
    intro r q q' A M Lc Lm hr hq hq' hS hO hR hQ h2 hov
    obtain ⟨x, rfl⟩ : ∃ y, q = y + 1 := ⟨q - 1, by omega⟩
    obtain ⟨x', rfl⟩ : ∃ y, q' = y + 1 := ⟨q' - 1, by omega⟩
    obtain ⟨g1, g2, g3, g4⟩ := id hR
    refine ⟨A, Lc, M, Lm, ?_, ?_, hS, hO, hR, hQ, h2, fun _ _ _ _ _ => rfl, fun _ _ _ _ _ _ => rfl, fun _ _ _ _ => rfl, fun _ _ _ _ => rfl⟩
    · show fX1_takeSignals_i117 fu (sI c) (sI f) row n3 (fX1_takeSignals_h117 fu (sI c) (sI f) row n3 x) (sI r) A Lc = _
      unfold fX1_takeSignals_i117
      rw [g1, if_pos (by rw [sI_le (by omega) (by omega)]; omega)]
    · show fX19_come_i90 fu (sI c) (sI f) (fX19_come_h90 fu (sI c) (sI f) x') (sI r) M Lm = _
      unfold fX19_come_i90
      rw [g2, if_pos (by rw [sI_le (by omega) (by omega)]; omega)]
  | succ k ih =>
    intro r q q' A M Lc Lm hr hq hq' hS hO hR hQ h2 hov
    obtain ⟨x, rfl⟩ : ∃ y, q = y + 1 := ⟨q - 1, by omega⟩
    obtain ⟨x', rfl⟩ : ∃ y, q' = y + 1 := ⟨q' - 1, by omega⟩
    obtain ⟨g1, g2, g3, g4⟩ := id hR
    obtain ⟨a1, a2, a3, a4, a5, a6, a7, a8, a9, a10, a11, a12, h, a13, a14, a15⟩ := g4 r (by omega)
    obtain ⟨o1, o2, o3, o4⟩ := id hO
    obtain ⟨w1, w2, tk, w3, w4, w5⟩ := o3 (rc r) a6
    have hF40 := hS.2.2.2.2.2.1
    have hS40 := hS.2.2.1
    obtain ⟨k1, k2, k3, k4, ⟨b1, b2, b3, b4, b5, b6, b7, b8, b9, b10, b11, b12, b13, b14, b15, b16⟩, c1, c2, c3, c4, c5, c6, c7, c8, c9, c10, c11, c12, c13, c14, c15, c16⟩ := hS.2.2.2.2.2.2.2.1 (rs r) a3
    have hcp := cpk_8 (y := d 3 (rs r))
    have unA : fX1_takeSignals_h117 fu (sI c) (sI f) row n3 (x + 1) (sI r, A, Lc) = fX1_takeSignals_i117 fu (sI c) (sI f) row n3 (fX1_takeSignals_h117 fu (sI c) (sI f) row n3 x) (sI r) A Lc := rfl
    have unM : fX19_come_h90 fu (sI c) (sI f) (x' + 1) (sI r, M, Lm) = fX19_come_i90 fu (sI c) (sI f) (fX19_come_h90 fu (sI c) (sI f) x') (sI r) M Lm := rfl
    rw [unA, unM]
    have nx := ih (r + 1) x x' A M Lc Lm (by omega) (by omega) (by omega) hS hO hR hQ h2 hov
    unfold fX1_takeSignals_i117 fX1_takeSignals_b190 fX19_come_i90 
    rw [g1, if_neg (show ¬ sI R ≤ sI r by rw [sI_le (by omega) (by omega)]; omega), g2, if_neg (show ¬ sI R ≤ sI r by rw [sI_le (by omega) (by omega)]; omega)]
    simp (disch := omega) only [mck_s, sI_nn, mlet_e, a4, a5, a1, a2, Nat.add_zero]
    rw [w2, w4, mck_s w3 (by omega), sI_nn (show tk < 2000000000 by omega), w5]
    have skipM : fX19_come_b308 fu (sI c) (sI f) (fX19_come_h90 fu (sI c) (sI f) x') (sI r) M Lm = fX19_come_h90 fu (sI c) (sI f) x' (sI (r + 1), M, Lm) := by
      unfold fX19_come_b308
      rw [mlet_e, sI_1]
    rw [skipM, sI_1]
    by_cases e1 : own (rc r) = c
    · rw [if_pos (show sI (own (rc r)) = sI c by rw [e1]), if_pos (show sI (own (rc r)) = sI c by rw [e1]), c_isInF (by omega) b1 (by omega) hf, mb3_s, b3]
      by_cases e2 : d 6 (rs r) = f
      · rw [decide_eq_true e2, bI_t, if_neg (show ¬ (1 : Int32) = 0 by decide), if_pos (show sI (d 6 (rs r)) = sI f by rw [e2])]
        obtain ⟨v, v1, v2⟩ := c_valueIn (fu := fu) (s := rs r) (row := row) (n2 := n3) (o := d 7 (rs r)) (ov := ov) (A := A) (L := Lc) (by omega) (by omega) c1 c3 c4 c5 b2 (by omega) hn3 hn4 (fun y hy => ⟨(hov y hy).1, (hov y hy).2.2⟩)
        obtain ⟨v', u1, u2⟩ := m_valueOf (fu := fu) (s := rs r) (o := d 7 (rs r)) (ov := ov) (M := M) (L := Lm) (by omega) (by omega) c2 c3 c4 c6 b4 (by omega) (fun y hy => ⟨(hov y hy).2.1, (hov y hy).2.2⟩)
        have ev : v = v' := uL_inj (by rw [v2, u2])
        subst ev
        rw [a1, v1, mb3_s, u1, mb3_s]
        obtain ⟨A1, Lc1, M1, Lm1, z1, z2, z3, z4, z5, z6, z7, z8, z9⟩ := st_read1 (fu := fu) (c := c) (f := f) (v := v) (fX19_come_h90 fu (sI c) (sI f) x') (show r < R by omega) hR o1 hQ h2
        rw [mck_s (show r < 60 by omega) (by omega)] at z2
        rw [z1, mb2_s, z2]
        have hS1 : FrS A1 M1 S F d tu := FrS_f hS (fun a y u => z6 a y (by omega) (by omega) (by omega)) (fun a y u => z7 a y (by omega) (by omega) (by omega) (by omega))
        have hO1 : ChO A1 M1 X own := ChO_f hO (fun x hx => z6 _ _ (by omega) (by omega) (by omega)) (fun a y u => z7 a y (by omega) (by omega) (by omega) (by omega))
        obtain ⟨A2, Lc2, M2, Lm2, y1, y2, y3, y4, y5, y6, y7, y8, y9, y10, y11⟩ := ih (r + 1) x x' A1 M1 Lc1 Lm1 (by omega) (by omega) (by omega) hS1 hO1 z3 z4 z5 (fun y hy => by rw [z6 _ _ (by omega) (by omega) (by omega), z7 _ _ (by omega) (by omega) (by omega) (by omega)]; exact hov y hy)
        exact ⟨A2, Lc2, M2, Lm2, y1, y2, y3, y4, y5, y6, y7, fun a y u1 u2 u3 => by rw [y8 a y u1 u2 u3]; exact z6 a y u1 u2 u3, fun a y u1 u2 u3 u4 => by rw [y9 a y u1 u2 u3 u4]; exact z7 a y u1 u2 u3 u4, fun a y u1 u2 => by rw [y10 a y u1 u2]; exact z8 a y u1 u2, fun a y u1 u2 => by rw [y11 a y u1 u2]; exact z9 a y u1 u2⟩
      · rw [decide_eq_false e2, bI_f, if_pos (show (0 : Int32) = 0 from rfl), if_neg (show ¬ sI (d 6 (rs r)) = sI f by rw [sI_eq (by omega) (by omega)]; exact e2)]
        exact nx
    · rw [if_neg (show ¬ sI (own (rc r)) = sI c by rw [sI_eq (by omega) (by omega)]; exact e1), if_neg (show ¬ sI (own (rc r)) = sI c by rw [sI_eq (by omega) (by omega)]; exact e1)]
      exact nx
