/-! tasks that are done let their charts work -/
abbrev wkA (A A' : mwM) : Prop := ∀ a y, ¬ (293 ≤ a ∧ ¬ ((a - 293) % 36 = 0 ∧ y < 11)) → A' a y = A a y
abbrev wkM (X : Nat) (M M' : mwM) : Prop := ∀ a y, a ≠ 748 → a ≠ 751 → a ≠ 752 → ¬ (964 ≤ a ∧ (a - 964) % 53 ≤ 29 ∧ a < 964 + 53 * X) → M' a y = M a y
abbrev wkC (X : Nat) (L L' : mwL) : Prop := ∀ a y, ¬ (293 ≤ a ∧ (a - 293) % 36 = 34 ∧ a < 293 + 36 * X) → L' a y = L a y
abbrev wkL (X : Nat) (L L' : mwL) : Prop := ∀ a y, ¬ (964 ≤ a ∧ (a - 964) % 53 ≤ 21 ∧ a < 964 + 53 * X) → L' a y = L a y
/-- which task has which chart, and what it has used -/
def TsR (A M : mwM) (Lm : mwL) (T X fr : Nat) : Prop := T ≤ 12 ∧ X ≤ 12 ∧ fr < 2 ^ T ∧ A 5 5 = sI fr ∧ M 732 24 = sI T ∧ M 787 1 = sI T ∧ ∀ i, i < T → ((A 283 i = -1 ∧ M 747 i = -1) ∨ ∃ x, x < X ∧ A 283 i = sI x ∧ M 747 i = sI x) ∧ ∃ us us' mi, M 746 i = sI mi ∧ mi ≤ 1000 ∧ Lm 925 i = sL us ∧ Lm 805 (i + 1) = sL us' ∧ us' < 1000000 ∧ us ≤ us' ∧ (fr.testBit i = true ↔ us < us' ∧ us' % (mi + 1) = 0)
theorem sh_i {fr i : Nat} (hi : i < 12) (hf : fr < 4096) : (sI fr >>> (sI i &&& 31)) = sI (fr / 2 ^ i) := by
  have e : ∀ i, i < 12 → sI i &&& 31 = sI i := by decide
  rw [e i hi]
  exact sI_shr (by omega) (by omega)
theorem m_taskDone0 {fu i : Nat} {M : mwM} {L : mwL} (hi : i < 12) (h : M 747 i = -1) : DX19_taskDone fu (sI i) M L = some (mset M 748 i (M 748 i + 1), L) := by
  unfold DX19_taskDone
  rw [mck_s hi (by omega), mck_s hi (by omega), mlet_e, sI_nn (by omega), mck_s hi (by omega), mlet_e, mset_n (by omega), h, if_neg (by decide)]
/-- the reference asks whether task i is done -/
theorem m_done {fu i T X fr : Nat} {A M : mwM} {L : mwL} (r139 : (Int32 × mwM × mwL) → Option (mwM × mwL)) (h : TsR A M L T X fr) (hi : i < T) : fX19_microsecond_i139 fu r139 (sI i) M L = if fr.testBit i = true then mb2 (DX19_taskDone fu (sI i) M L) (fun M39 L40 => r139 (sI (i + 1), M39, L40)) else r139 (sI (i + 1), M, L) := by
  obtain ⟨h1, h2, h3, h4, h5, h6, h7⟩ := h
  obtain ⟨_, us, us', mi, k1, k2, k3, k4, k5, k6, k7⟩ := h7 i hi
  unfold fX19_microsecond_i139 fX19_microsecond_b193
  rw [h5, if_neg (by rw [sI_le (by omega) (by omega)]; omega), sI_1, m_used h1 hi h6, mb3_s, mck_s (by omega) (by omega), sI_nn (by omega), k3, k4]
  have l1 : (lg_cmp (sL us') (sL us) ≤ 0) ↔ us' ≤ us := by
    rw [lg_cmp_le]
    exact sL_le (by omega) (by omega)
  by_cases c1 : us' ≤ us
  · rw [if_pos (l1.mpr c1), mlet_e, if_neg (fun w => by have := k7.mp w; omega)]
  · rw [if_neg (fun w => c1 (l1.mp w)), mck_s (by omega) (by omega), k1, sI_1, sI_L (by omega)]
    unfold mnzL
    have nz : ¬ sL (mi + 1) = 0 := by
      rw [show (0 : Int64) = sL 0 from rfl, sL_eq (by omega) (by omega)]
      omega
    have hm := Nat.mod_lt us' (show 0 < mi + 1 by omega)
    rw [if_neg nz, sL_mod (by omega) (by omega)]
    have l2 : (lg_cmp (sL (us' % (mi + 1))) 0 = 0) ↔ us' % (mi + 1) = 0 := by
      rw [lg_cmp_eq, show (0 : Int64) = sL 0 from rfl, sL_eq (by omega) (by omega)]
    by_cases c2 : us' % (mi + 1) = 0
    · rw [if_pos (l2.mpr c2), if_pos (k7.mpr ⟨by omega, c2⟩)]
      rfl
    · rw [if_neg (fun w => c2 (l2.mp w)), mlet_e, if_neg (fun w => c2 (k7.mp w).2)]
theorem TsR_f {A A' M M' : mwM} {L L' : mwL} {T X fr : Nat} (h : TsR A M L T X fr) (hA : ∀ a y, (a = 5 ∧ y = 5) ∨ a = 283 → A' a y = A a y) (hM : ∀ a y, (a = 732 ∧ y = 24) ∨ a = 787 ∨ a = 746 ∨ a = 747 → M' a y = M a y) (hL : ∀ a y, a = 925 ∨ a = 805 → L' a y = L a y) : TsR A' M' L' T X fr := by
  obtain ⟨h1, h2, h3, h4, h5, h6, h7⟩ := h
  refine ⟨h1, h2, h3, by rw [hA _ _ (by omega)]; exact h4, by rw [hM _ _ (by omega)]; exact h5, by rw [hM _ _ (by omega)]; exact h6, fun i hi => ?_⟩
  obtain ⟨k, us, us', mi, k1, k2, k3, k4, k5, k6, k7⟩ := h7 i hi
  refine ⟨?_, us, us', mi, by rw [hM _ _ (by omega)]; exact k1, k2, by rw [hL _ _ (by omega)]; exact k3, by rw [hL _ _ (by omega)]; exact k4, k5, k6, k7⟩
  rw [hA _ _ (by omega), hM _ _ (by omega)]
  exact k
theorem st_tasks {fu T X t fr : Nat} (hfu : 1100 ≤ fu) (ht : t ≤ 20000) : ∀ (r i q q' : Nat) (A M : mwM) (Lc Lm : mwL), i + r = T → r < q → r < q' → TsR A M Lm T X fr → A 3 16 = sI t → M 732 83 = sI t → (∀ x, x < X → CxR A M Lc Lm t x ∧ QdR A M Lc Lm x) → ∃ A' Lc' M' Lm', fX1_passMicrosecond_h56 fu q (sI i, A, Lc) = fX1_passMicrosecond_b122 fu A' Lc' ∧ fX19_microsecond_h139 fu q' (sI i, M, Lm) = fX19_microsecond_h201 fu fu (0, M', Lm') ∧ (∀ x, x < X → CxR A' M' Lc' Lm' t x ∧ QdR A' M' Lc' Lm' x) ∧ (∀ j, j < T → M' 748 j = if i ≤ j ∧ fr.testBit j = true then M 748 j + 1 else M 748 j) ∧ wkA A A' ∧ wkM X M M' ∧ wkC X Lc Lc' ∧ wkL X Lm Lm' := by
  -- the reference alone, where no more task is done
  have rest : ∀ (r i q' : Nat) (A M : mwM) (Lm : mwL), i + r = T → r < q' → TsR A M Lm T X fr → (∀ j, i ≤ j → j < T → fr.testBit j = false) → fX19_microsecond_h139 fu q' (sI i, M, Lm) = fX19_microsecond_h201 fu fu (0, M, Lm) := by
    intro r
    induction r with
    | zero =>
      intro i q' A M Lm hi hq hT hno
      obtain ⟨w, rfl⟩ : ∃ y, q' = y + 1 := ⟨q' - 1, by omega⟩
      obtain ⟨h1, h2, h3, h4, h5, h6, h7⟩ := hT
      show fX19_microsecond_i139 fu (fX19_microsecond_h139 fu w) (sI i) M Lm = _
      unfold fX19_microsecond_i139
      rw [h5, if_pos (by rw [sI_le (by omega) (by omega)]; omega)]
    | succ r ih =>
      intro i q' A M Lm hi hq hT hno
      obtain ⟨w, rfl⟩ : ∃ y, q' = y + 1 := ⟨q' - 1, by omega⟩
      have un : fX19_microsecond_h139 fu (w + 1) (sI i, M, Lm) = fX19_microsecond_i139 fu (fX19_microsecond_h139 fu w) (sI i) M Lm := rfl
      rw [un, m_done _ hT (by omega), if_neg (by rw [hno i (by omega) (by omega)]; decide)]
      exact ih (i + 1) w A M Lm (by omega) (by omega) hT (fun j j1 j2 => hno j (by omega) j2)
  intro r
  induction r with
  | zero =>
    intro i q q' A M Lc Lm hi hq hq' hT h16 h83 hX
    obtain ⟨w, rfl⟩ : ∃ y, q = y + 1 := ⟨q - 1, by omega⟩
    have hr := rest 0 i q' A M Lm hi hq' hT (fun j j1 j2 => by omega)
    refine ⟨A, Lc, M, Lm, ?_, hr, hX, fun j hj => by rw [if_neg (by omega)], fun _ _ _ => rfl, fun _ _ _ _ _ _ => rfl, fun _ _ _ => rfl, fun _ _ _ => rfl⟩
    obtain ⟨h1, h2, h3, h4, h5, h6, h7⟩ := hT
    show fX1_passMicrosecond_i56 fu (fX1_passMicrosecond_h56 fu w) (sI i) A Lc = _
    unfold fX1_passMicrosecond_i56
    by_cases c : 12 ≤ i
    · rw [if_pos (by rw [sI_lle (by decide) (by omega)]; exact c)]
    · have hp : 2 ^ T ≤ 2 ^ 12 := Nat.pow_le_pow_right (by omega) h1
      rw [if_neg (by rw [sI_lle (by decide) (by omega)]; exact c), h4, sh_i (by omega) (by omega), show i = T from by omega, Nat.div_eq_of_lt h3, if_pos (show sI 0 = 0 from rfl)]
  | succ r ih =>
    intro i q q' A M Lc Lm hi hq hq' hT h16 h83 hX
    obtain ⟨w, rfl⟩ : ∃ y, q = y + 1 := ⟨q - 1, by omega⟩
    obtain ⟨h1, h2, h3, h4, h5, h6, h7⟩ := id hT
    have hp : 2 ^ T ≤ 2 ^ 12 := Nat.pow_le_pow_right (by omega) h1
    have unA : fX1_passMicrosecond_h56 fu (w + 1) (sI i, A, Lc) = fX1_passMicrosecond_i56 fu (fX1_passMicrosecond_h56 fu w) (sI i) A Lc := rfl
    rw [unA]
    have hlt : fr / 2 ^ i < 2000000000 := Nat.lt_of_le_of_lt (Nat.div_le_self _ _) (by omega)
    by_cases z : fr / 2 ^ i = 0
    · have hno : ∀ j, i ≤ j → j < T → fr.testBit j = false := fun j j1 j2 => by
        have hf2 : fr < 2 ^ i := by
          rcases Nat.div_eq_zero_iff.mp z with w | w
          · have := Nat.pow_pos (n := i) (show 0 < 2 by omega); omega
          · exact w
        exact Nat.testBit_lt_two_pow (Nat.lt_of_lt_of_le hf2 (Nat.pow_le_pow_right (by omega) j1))
      refine ⟨A, Lc, M, Lm, ?_, rest (r + 1) i q' A M Lm hi hq' hT hno, hX, fun j hj => ?_, fun _ _ _ => rfl, fun _ _ _ _ _ _ => rfl, fun _ _ _ => rfl, fun _ _ _ => rfl⟩
      · unfold fX1_passMicrosecond_i56
        rw [if_neg (by rw [sI_lle (by decide) (by omega)]; omega), h4, sh_i (by omega) (by omega), z, if_pos (show sI 0 = 0 from rfl)]
      · rw [if_neg (fun u => by rw [hno j u.1 hj] at u; exact absurd u.2 (by decide))]
    · obtain ⟨w', rfl⟩ : ∃ y, q' = y + 1 := ⟨q' - 1, by omega⟩
      have unM : fX19_microsecond_h139 fu (w' + 1) (sI i, M, Lm) = fX19_microsecond_i139 fu (fX19_microsecond_h139 fu w') (sI i) M Lm := rfl
      rw [unM, m_done _ hT (by omega)]
      have tb : fr.testBit i = decide (fr / 2 ^ i % 2 = 1) := Nat.testBit_eq_decide_div_mod_eq
      have a1 : sI (fr / 2 ^ i) &&& 1 = sI (fr / 2 ^ i % 2) := sI_and (m := 1)
      unfold fX1_passMicrosecond_i56 fX1_passMicrosecond_b116
      rw [if_neg (show ¬ (12 : Int32) ≤ sI i by rw [sI_lle (by decide) (by omega)]; omega), h4, sh_i (by omega) (by omega), if_neg (show ¬ sI (fr / 2 ^ i) = 0 by rw [show (0 : Int32) = sI 0 from rfl, sI_eq (by omega) (by omega)]; exact z), a1]
      by_cases done : fr / 2 ^ i % 2 = 1
      · rw [if_pos (show sI (fr / 2 ^ i % 2) = 1 by rw [done]; rfl), tb, decide_eq_true done, if_pos rfl, mck_s (show i < 12 by omega) (by omega), sI_nn (show i < 2000000000 by omega)]
        rcases (h7 i (by omega)).1 with ⟨k1, k2⟩ | ⟨x, x1, k1, k2⟩
        · rw [k1, if_pos (by decide), mlet_e, sI_1, m_taskDone0 (by omega) k2, mb2_s]
          have tM : ∀ a y, ¬ (a = 748 ∧ y = i) → mset M 748 i (M 748 i + 1) a y = M a y := fun a y u => mset_n u
          obtain ⟨A', Lc', M', Lm', y1, y2, y3, y4, y5, y6, y7, y8⟩ := ih (i + 1) w w' A (mset M 748 i (M 748 i + 1)) Lc Lm (by omega) (by omega) (by omega) (TsR_f hT (fun _ _ _ => rfl) (fun a y u => tM a y (by omega)) (fun _ _ _ => rfl)) h16 (by rw [tM _ _ (by omega)]; exact h83) (fun x hx => ⟨CxR_f (hX x hx).1 (Nat.le_refl _) (fun _ _ _ _ _ => rfl) (fun a y u1 u2 u3 => tM a y (by omega)) (tM _ _ (by omega)) (fun _ _ _ => rfl) (by obtain ⟨_, _, _, _, _, q⟩ := (hX x hx).2; exact q), QdR_f (hX x hx).2 (fun _ _ _ => rfl) (fun a y u => tM a y (by omega)) (fun _ => rfl) (fun _ => rfl)⟩)
          refine ⟨A', Lc', M', Lm', y1, y2, y3, fun j hj => ?_, y5, fun a y u1 u2 u3 u4 => by rw [y6 a y u1 u2 u3 u4]; exact tM a y (by omega), y7, y8⟩
          rw [y4 j hj]
          by_cases ej : j = i
          · rw [ej, if_neg (by omega), mset_s, if_pos ⟨by omega, by rw [tb]; exact decide_eq_true done⟩]
          · rw [tM _ _ (by omega)]
            by_cases le : i + 1 ≤ j ∧ fr.testBit j = true
            · rw [if_pos le, if_pos ⟨by omega, le.2⟩]
            · rw [if_neg le, if_neg (fun u => le ⟨by omega, u.2⟩)]
        · rw [k1, if_neg (by rw [sI_ltl (by omega) (by decide)]; omega), mck_s (show i < 12 by omega) (by omega), mck_s (show x < 12 by omega) (by omega), sI_nn (show x < 2000000000 by omega), h16]
          obtain ⟨⟨va, p, nw, c1, c2, c3, c4, c5, c6, c7⟩, qn, q1, q2, q3, q4, q5⟩ := hX x x1
          have hes : ∃ es : Nat → Nat, ∀ j, j < qn → A (293 + 36 * x + 35) j = sI (es j) ∧ M 753 (16 * x + j) = sI (es j) ∧ es j < 1000 := by
            refine ⟨fun j => nn (A (293 + 36 * x + 35) j), fun j hj => ?_⟩
            obtain ⟨e1, v, v1, v2⟩ := q4 j hj
            dsimp only
            rw [← e1, v2, nn_s (by omega)]
            exact ⟨rfl, rfl, v1⟩
          obtain ⟨es, hes⟩ := hes
          obtain ⟨⟨A1, Lc1⟩, z1, z2, z3, z4, z5, z6⟩ := c_workOff (fu := fu) (t := t) (n := qn) (es := es) hfu c1 c2 ht q1 q2 (fun j hj => ⟨(hes j hj).1, (hes j hj).2.2⟩) c4
          obtain ⟨⟨M1, Lm1⟩, y1, y2, y3, y4, y5, ⟨nw', y6, y7⟩, y8, y9⟩ := m_taskDone (fu := fu) (T := i) (t := t) (n := qn) (es := es) hfu (by omega) (by omega) c1 c3 ht q1 k2 h83 q3 (fun j hj => ⟨(hes j hj).2.1, (hes j hj).2.2⟩) c5 c6 c7
          dsimp only at z2 z3 z4 z5 z6 y2 y3 y4 y5 y7 y8 y9
          rw [z1, mb2_s, y1, mb2_s, mlet_e, sI_1]
          have fA : wkA A A1 := fun a y u => z5 a y (by omega) (by omega) (by omega) (by omega)
          have fM : wkM X M M1 := fun a y u1 u2 u3 u4 => y8 a y (by omega) (by omega) (by omega) (by omega)
          have fC : wkC X Lc Lc1 := fun a y u => by rw [z6 a (by omega)]
          have fL : wkL X Lm Lm1 := fun a y u => by rw [y9 a (by omega) (by omega) (by omega)]
          have dat : Lc1 (293 + 36 * x + 34) = Lm1 (964 + 53 * x + 21) := by
            have e1 : Lc1 (293 + 36 * x + 34) = (wkZ va t qn es p).1.1.2.2 := z2.1.2.2.2.1.2.2.2.2.2
            have e2 : Lm1 (964 + 53 * x + 21) = (wkZ va t qn es p).1.1.2.2 := y2.2.2.2.1.2.2.2.2.2.1
            rw [e1, e2]
          obtain ⟨A', Lc', M', Lm', v1, v2, v3, v4, v5, v6, v7, v8⟩ := ih (i + 1) w w' A1 M1 Lc1 Lm1 (by omega) (by omega) (by omega) (TsR_f hT (fun a y u => fA a y (by omega)) (fun a y u => fM a y (by omega) (by omega) (by omega) (by omega)) (fun a y u => fL a y (by omega))) (by rw [fA _ _ (by omega)]; exact h16) (by rw [fM _ _ (by omega) (by omega) (by omega) (by omega)]; exact h83) (fun b hb => by
            by_cases eb : b = x
            · rw [eb]
              exact ⟨⟨va, wkZ va t qn es p, nw', wkZ_I c1 ht, z2, y2, z3, y3, y7, y6⟩, 0, by omega, z4, y4, fun j hj => by omega, dat⟩
            · obtain ⟨g1, g2⟩ := hX b hb
              have dz : Lc1 (293 + 36 * b + 34) = Lm1 (964 + 53 * b + 21) := by
                obtain ⟨_, _, _, _, _, q⟩ := g2
                rw [z6 _ (by omega), y9 _ (by omega) (by omega) (by omega)]
                exact q
              refine ⟨CxR_f g1 (Nat.le_refl _) (fun a y u1 u2 u3 => z5 a y (by omega) (by omega) (by omega) (by omega)) (fun a y u1 u2 u3 => y8 a y (by omega) (by omega) (by omega) (by omega)) (y8 _ _ (by omega) (by omega) (by omega) (by omega)) (fun a u1 u2 => y9 a (by omega) (by omega) (by omega)) dz, ?_⟩
              obtain ⟨qb, b1, b2, b3, b4, b5⟩ := g2
              exact ⟨qb, b1, by rw [z5 _ _ (by omega) (by omega) (by omega) (by omega)]; exact b2, by rw [y8 _ _ (by omega) (by omega) (by omega) (by omega)]; exact b3, fun j hj => by rw [z5 _ _ (by omega) (by omega) (by omega) (by omega), y8 _ _ (by omega) (by omega) (by omega) (by omega)]; exact b4 j hj, dz⟩)
          refine ⟨A', Lc', M', Lm', v1, v2, v3, fun j hj => ?_, fun a y u => by rw [v5 a y u]; exact fA a y u, fun a y u1 u2 u3 u4 => by rw [v6 a y u1 u2 u3 u4]; exact fM a y u1 u2 u3 u4, fun a y u => by rw [v7 a y u]; exact fC a y u, fun a y u => by rw [v8 a y u]; exact fL a y u⟩
          rw [v4 j hj]
          by_cases ej : j = i
          · rw [ej, if_neg (by omega), y5, if_pos ⟨by omega, by rw [tb]; exact decide_eq_true done⟩]
          · rw [y8 _ _ (by omega) (by omega) (by omega) (by omega)]
            by_cases le : i + 1 ≤ j ∧ fr.testBit j = true
            · rw [if_pos le, if_pos ⟨by omega, le.2⟩]
            · rw [if_neg le, if_neg (fun u => le ⟨by omega, u.2⟩)]
      · rw [if_neg (show ¬ sI (fr / 2 ^ i % 2) = 1 by rw [show (1 : Int32) = sI 1 from rfl, sI_eq (by omega) (by omega)]; exact done), tb, decide_eq_false done, if_neg (by decide), mlet_e, sI_1]
        obtain ⟨A', Lc', M', Lm', y1, y2, y3, y4, y5, y6, y7, y8⟩ := ih (i + 1) w w' A M Lc Lm (by omega) (by omega) (by omega) hT h16 h83 hX
        refine ⟨A', Lc', M', Lm', y1, y2, y3, fun j hj => ?_, y5, y6, y7, y8⟩
        rw [y4 j hj]
        by_cases ej : j = i
        · rw [ej, if_neg (by omega), if_neg (fun u => by rw [tb, decide_eq_false done] at u; exact absurd u.2 (by decide))]
        · by_cases le : i + 1 ≤ j ∧ fr.testBit j = true
          · rw [if_pos le, if_pos ⟨by omega, le.2⟩]
          · rw [if_neg le, if_neg (fun u => le ⟨by omega, u.2⟩)]
