/-! a protected frame is taken or refused -/
theorem bmodL {x : Nat} (h : x < 2000000000) : (x : Int).bmod (2 ^ 64) = x := by
  rw [Int.bmod_def]
  split <;> omega
theorem sL_div {a b : Nat} (ha : a < 2000000000) (hb : b < 2000000000) : sL a / sL b = sL (a / b) := by
  have hd : a / b ≤ a := Nat.div_le_self a b
  apply Int64.toInt_inj.mp
  rw [Int64.toInt_div, sL_toInt (by omega), sL_toInt (by omega), sL_toInt (by omega)]
  exact bmodL (x := a / b) (by omega)
theorem sL_mod {a b : Nat} (ha : a < 2000000000) (hb : b < 2000000000) : sL a - sL a / sL b * sL b = sL (a % b) := by
  have hm : a / b * b ≤ a := Nat.div_mul_le_self a b
  rw [sL_div ha hb, sL_mul, sL_sub hm]
  congr 1
  have := Nat.div_add_mod a b
  rw [Nat.mul_comm] at this
  omega
theorem sL_a255 {n : Nat} (h : n < 2000000000) : sL n &&& 255 = sL (n % 256) := by
  apply Int64.toBitVec_inj.mp
  apply BitVec.eq_of_toNat_eq
  show ((sL n).toBitVec &&& (255 : Int64).toBitVec).toNat = (sL (n % 256)).toBitVec.toNat
  have e1 : (sL n).toBitVec.toNat = n := uL_s h
  have e2 : (sL (n % 256)).toBitVec.toNat = n % 256 := uL_s (by omega)
  rw [BitVec.toNat_and, e1, e2, show (255 : Int64).toBitVec.toNat = 2 ^ 8 - 1 by decide, Nat.and_two_pow_sub_one_eq_mod]
theorem df_C {a b : Nat} (ha : a < 256) (hb : b < 2000000000) : (sI a - sI b) &&& 255 = sI ((a + 256 - b % 256) % 256) := by
  rw [and255]
  congr 1
  show ((sI a).toBitVec - (sI b).toBitVec).toNat % 256 = _
  have e1 : (sI a).toBitVec.toNat = a := uI_s (by omega)
  have e2 : (sI b).toBitVec.toNat = b := uI_s hb
  rw [BitVec.toNat_sub, e1, e2]
  omega
theorem df_M {a b : Nat} (ha : a < 256) (hb : b < 2000000000) : (((sI a).toInt64 - (sL b &&& 255)) + 256) - (((sI a).toInt64 - (sL b &&& 255)) + 256) / 256 * 256 = sL ((a + 256 - b % 256) % 256) := by
  have e : ((sI a).toInt64 - (sL b &&& 255)) + 256 = sL (a + 256 - b % 256) := by
    rw [sI_L (by omega), sL_a255 hb, ← sL_sub (by omega), ← sL_add]
    show sL a - sL (b % 256) + sL 256 = sL a + sL 256 - sL (b % 256)
    rw [Int64.sub_eq_add_neg, Int64.sub_eq_add_neg, Int64.add_assoc, Int64.add_comm (-sL (b % 256)), ← Int64.add_assoc]
  rw [e]
  exact sL_mod (b := 256) (by omega) (by omega)
theorem st_accept {fu c f P key row n3 cn : Nat} {A M : mwM} {Lc Lm : mwL} {Sb oc : Nat → Nat} (hfu : 300 ≤ fu) (hf : f < 40) (hc : c < 6) (hcn : cn < 1900000000) (hP : P < 40) (h78 : A 78 f = sI P) (h784 : M 784 f = sI P) (h76 : A 76 f = sI key) (h783 : M 783 f = sI key) (hk1 : 1 ≤ key) (hk2 : key ≤ 16) (hC : RCd A M Sb) (hK : KnC A Sb key) (hr1 : row ≠ 96) (hr2 : ¬ (137 ≤ row ∧ row ≤ 138)) (hn3 : 8 ≤ n3) (hn4 : n3 < 1000) (ho : ∀ i, i < 8 → A row i = sI (oc i) ∧ M 926 i = sI (oc i) ∧ oc i < 256) (h86 : A (86 + c) f = sI cn) (h786 : Lm 786 (6 * f + c) = sL cn) : ∃ (r : Bool) (A' M' : mwM) (Lm' : mwL), DX6_accept fu (sI c) (sI f) row n3 A Lc = some (bI r, A', Lc) ∧ DX19_right fu (sI c) (sI f) M Lm = some (bI r, M', Lm') ∧ RCd A' M' Sb ∧ (∃ cn', cn ≤ cn' ∧ cn' ≤ cn + 64 ∧ A' (86 + c) f = sI cn' ∧ Lm' 786 (6 * f + c) = sL cn') ∧ (∀ a y, a ≠ 96 → ¬ (137 ≤ a ∧ a ≤ 138) → ¬ (a = 86 + c ∧ y = f) → A' a y = A a y) ∧ (∀ a y, ¬ (a = 854 ∧ (y = 0 ∨ y = 6 ∨ y = 7)) → a ≠ 858 → a ≠ 859 → ¬ (863 ≤ a ∧ a ≤ 867) → M' a y = M a y) ∧ ∀ a y, ¬ (a = 786 ∧ y = 6 * f + c) → Lm' a y = Lm a y := by
  have e3 : (3 : Int32).toNatClampNeg = 3 := rfl
  obtain ⟨o1, o2, o3⟩ := ho 3 (by omega)
  have hd : (oc 3 + 256 - cn % 256) % 256 < 256 := Nat.mod_lt _ (by omega)
  generalize hdd : (oc 3 + 256 - cn % 256) % 256 = dd at hd
  have xC : (A row 3 - A (86 + c) f) &&& 255 = sI dd := by rw [o1, h86, df_C o3 (by omega), hdd]
  have xM : (((sI (oc 3)).toInt64 - (sL cn &&& 255)) + 256) - (((sI (oc 3)).toInt64 - (sL cn &&& 255)) + 256) / 256 * 256 = sL dd := by rw [df_M o3 (by omega), hdd]
  have l1 : (lg_cmp (sL dd) 1 < 0) ↔ dd < 1 := by
    rw [lg_cmp_lt]
    exact sL_lt (b := 1) (by omega) (by omega)
  have l64 : (lg_cmp (sL dd) 64 ≤ 0) ↔ dd ≤ 64 := by
    rw [lg_cmp_le]
    exact sL_le (b := 64) (by omega) (by omega)
  have n256 : ¬ (256 : Int64) = 0 := by decide
  unfold DX6_accept DX19_right fX6_accept_b30 fX19_right_b62
  rw [show (3 : Int32) = sI 3 from rfl, sI_lml, sI_add]
  simp (disch := omega) only [mck_s, sI_nn, mlet_e]
  rw [xC, h783, if_neg (show ¬ sI key = 0 by rw [show (0 : Int32) = sI 0 from rfl, sI_eq (by omega) (by omega)]; omega), h786, o2]
  unfold mnzL
  rw [if_neg n256, xM]
  have refuse : ∃ (r : Bool) (A' M' : mwM) (Lm' : mwL), some ((0 : Int32), A, Lc) = some (bI r, A', Lc) ∧ some ((0 : Int32), M, Lm) = some (bI r, M', Lm') ∧ RCd A' M' Sb ∧ (∃ cn', cn ≤ cn' ∧ cn' ≤ cn + 64 ∧ A' (86 + c) f = sI cn' ∧ Lm' 786 (6 * f + c) = sL cn') ∧ (∀ a y, a ≠ 96 → ¬ (137 ≤ a ∧ a ≤ 138) → ¬ (a = 86 + c ∧ y = f) → A' a y = A a y) ∧ (∀ a y, ¬ (a = 854 ∧ (y = 0 ∨ y = 6 ∨ y = 7)) → a ≠ 858 → a ≠ 859 → ¬ (863 ≤ a ∧ a ≤ 867) → M' a y = M a y) ∧ ∀ a y, ¬ (a = 786 ∧ y = 6 * f + c) → Lm' a y = Lm a y := ⟨false, A, M, Lm, rfl, rfl, hC, ⟨cn, by omega, by omega, h86, h786⟩, fun _ _ _ _ _ => rfl, fun _ _ _ _ _ _ => rfl, fun _ _ _ => rfl⟩
  by_cases z : dd = 0
  · rw [if_pos (show sI dd = 0 by rw [z]; rfl), if_pos (l1.mpr (by omega))]
    exact refuse
  · rw [if_neg (show ¬ sI dd = 0 by rw [show (0 : Int32) = sI 0 from rfl, sI_eq (by omega) (by omega)]; exact z), if_neg (show ¬ lg_cmp (sL dd) 1 < 0 from fun w => by have := l1.mp w; omega)]
    by_cases big : dd ≤ 64
    · rw [if_pos (show sI dd ≤ 64 by rw [sI_lel (by omega) (by decide)]; exact big), if_pos (l64.mpr big), h86, sI_add, sL_add]
      obtain ⟨A1, p1, p2, p3⟩ := c_makeCode (fu := fu) (f := f) (n := cn + dd) (P := P) (key := key) (row := row) (n3 := n3) (A := A) (M := M) (L := Lc) (S := Sb) (oc := oc) (by omega) hf (by omega) hP h78 h76 (by omega) hC hK hr1 (by omega) (by omega) hn3 (fun i hi => ⟨(ho i (by omega)).1, (ho i (by omega)).2.2⟩)
      obtain ⟨M1, q1, q2, q3, q4, q5⟩ := m_codeF (fu := fu) (f := f) (n := cn + dd) (P := P) (key := key) (A := A) (M := M) (L := Lm) (S := Sb) (oc := oc) (by omega) hf (by omega) hP h784 h783 hk1 hk2 hC (fun i hi => ⟨(ho i (by omega)).2.1, (ho i (by omega)).2.2⟩)
      rw [p1, mb2_s, q1, mb2_s]
      generalize hcm : cmac Sb (scN Sb key) 12 (vS P (cn + dd) oc) = cm at p2 q2
      have iso : DX3_isOut fu row n3 4 A1 Lc = some (bI (sam4 (fun i => oc (4 + i)) cm), A1, Lc) := c_isOut3 (fr := 4) (by omega) (by omega) (by omega) (fun i hi => by rw [p3 _ _ (by omega) (by omega) (by omega)]; exact ⟨(ho (4 + i) (by omega)).1, (ho (4 + i) (by omega)).2.2⟩) (fun i hi => p2 i (by omega))
      rw [iso, mb3_s]
      have hC1 : ∀ M2 : mwM, (∀ a y, ¬ (a = 854 ∧ (y = 0 ∨ y = 6 ∨ y = 7)) → a ≠ 858 → a ≠ 859 → ¬ (863 ≤ a ∧ a ≤ 867) → M2 a y = M a y) → M2 854 6 = 0 → ∀ A2 : mwM, (∀ a y, 98 ≤ a → a ≤ 136 → A2 a y = A a y) → RCd A2 M2 Sb := fun M2 w1 w2 A2 w3 => RCd_fr hC w3 (fun a y w => by
        by_cases e : a = 854 ∧ y = 6
        · rw [e.1, e.2, w2]; exact hC.2.2.2.2.1.symm
        · exact w1 a y (by omega) (by omega) (by omega) (by omega))
      -- the reference compares
      have key1 : ∀ (r i q : Nat) (B : mwM), i + r = 4 → r < q → (∀ x, x < i → oc (4 + x) = cm x) → (∀ a y, ¬ (a = 854 ∧ y = 0) → B a y = M1 a y) → ∃ B' Lm', fX19_right_h76 fu (sI c) (sI f) q (sL cn, sL dd, sI i, B, Lm) = some (bI (sam4 (fun i => oc (4 + i)) cm), B', Lm') ∧ (∀ a y, ¬ (a = 854 ∧ y = 0) → B' a y = M1 a y) ∧ (sam4 (fun i => oc (4 + i)) cm = false → Lm' = Lm) ∧ (sam4 (fun i => oc (4 + i)) cm = true → Lm' = mset Lm 786 (6 * f + c) (sL (cn + dd))) := by
        intro r
        induction r with
        | zero =>
          intro i q B hi hq h1 h2
          obtain ⟨q', rfl⟩ : ∃ y, q = y + 1 := ⟨q - 1, by omega⟩
          have es : sam4 (fun i => oc (4 + i)) cm = true := sam4_t (fun x hx => h1 x (by omega))
          refine ⟨B, mset Lm 786 (6 * f + c) (sL (cn + dd)), ?_, h2, fun w => (by rw [es] at w; cases w), fun _ => rfl⟩
          show fX19_right_i76 fu (sI c) (sI f) (fX19_right_h76 fu (sI c) (sI f) q') (sL cn) (sL dd) (sI i) B Lm = _
          unfold fX19_right_i76
          rw [if_pos (by rw [sI_lle (by decide) (by omega)]; omega), sI_lml, sI_add, mck_s (show 6 * f + c < 240 by omega) (by omega), mlet_e, sI_nn (by omega), sL_add, es]
          rfl
        | succ r ih =>
          intro i q B hi hq h1 h2
          obtain ⟨q', rfl⟩ : ∃ y, q = y + 1 := ⟨q - 1, by omega⟩
          have un : fX19_right_h76 fu (sI c) (sI f) (q' + 1) (sL cn, sL dd, sI i, B, Lm) = fX19_right_i76 fu (sI c) (sI f) (fX19_right_h76 fu (sI c) (sI f) q') (sL cn) (sL dd) (sI i) B Lm := rfl
          rw [un]
          obtain ⟨d1, d2⟩ := q2 i (by omega)
          obtain ⟨z, z1, z2⟩ := m_out (fu := fu) (M := B) (L := Lm) (i := i) (by omega) (by rw [h2 _ _ (by omega)]; exact q4) (by rw [h2 _ _ (by omega)]; exact d1) d2
          obtain ⟨v1, v2, v3⟩ := ho (4 + i) (by omega)
          unfold fX19_right_i76
          rw [if_neg (by rw [sI_lle (by decide) (by omega)]; omega), z1, mb3_s, sI_lad, mck_s (by omega) (by omega), z2, sI_nn (by omega), mset_n (show ¬ (926 = 854 ∧ 4 + i = 0) by omega), h2 _ _ (by omega), q5 _ _ (by omega) (by omega) (by omega) (by omega), v2]
          by_cases e : cm i = oc (4 + i)
          · rw [if_pos (by rw [e]), mlet_e, sI_1]
            exact ih (i + 1) q' _ (by omega) (by omega) (fun x hx => by
              by_cases ex : x = i
              · rw [ex]; exact e.symm
              · exact h1 x (by omega)) (fun a y w => by rw [mset_n w]; exact h2 a y w)
          · have es : sam4 (fun i => oc (4 + i)) cm = false := sam4_f (i := i) (by omega) (fun w => e w.symm)
            rw [if_neg (by rw [sI_eq (by omega) (by omega)]; exact e), es]
            exact ⟨_, Lm, rfl, fun a y w => by rw [mset_n w]; exact h2 a y w, fun _ => rfl, fun w => (by cases w)⟩
      obtain ⟨M2, Lm', k1, k2, k3, k4⟩ := key1 4 0 fu M1 (by omega) (by omega) (fun x hx => by omega) (fun _ _ _ => rfl)
      have k1' : fX19_right_h76 fu (sI c) (sI f) fu (sL cn, sL dd, 0, M1, Lm) = _ := k1
      rw [k1']
      have fM : ∀ a y, ¬ (a = 854 ∧ (y = 0 ∨ y = 6 ∨ y = 7)) → a ≠ 858 → a ≠ 859 → ¬ (863 ≤ a ∧ a ≤ 867) → M2 a y = M a y := fun a y w1 w2 w3 w4 => by rw [k2 a y (by omega)]; exact q5 a y w1 w2 w3 w4
      have m6 : M2 854 6 = 0 := by rw [k2 _ _ (by omega)]; exact q3
      cases hs : sam4 (fun i => oc (4 + i)) cm with
      | false =>
        rw [bI_f, if_pos (show (0 : Int32) = 0 from rfl), k3 hs]
        exact ⟨false, A1, M2, Lm, rfl, rfl, hC1 M2 fM m6 A1 (fun a y w1 w2 => p3 a y (by omega) (by omega) (by omega)), ⟨cn, by omega, by omega, by rw [p3 _ _ (by omega) (by omega) (by omega)]; exact h86, h786⟩, fun a y w1 w2 w3 => p3 a y w1 (by omega) (by omega), fM, fun _ _ _ => rfl⟩
      | true =>
        rw [bI_t, if_neg (show ¬ (1 : Int32) = 0 by decide), p3 _ _ (by omega) (by omega) (by omega), h86, sI_add, k4 hs]
        refine ⟨true, _, M2, _, rfl, rfl, hC1 M2 fM m6 _ (fun a y w1 w2 => by rw [mset_n (by omega)]; exact p3 a y (by omega) (by omega) (by omega)), ⟨cn + dd, by omega, by omega, by rw [mset_s], by rw [mset_s]⟩, fun a y w1 w2 w3 => by rw [mset_n w3]; exact p3 a y w1 (by omega) (by omega), fM, fun a y w => by rw [mset_n w]⟩
    · rw [if_neg (show ¬ sI dd ≤ 64 by rw [sI_lel (by omega) (by decide)]; exact big), if_neg (show ¬ lg_cmp (sL dd) 64 ≤ 0 from fun w => big (l64.mp w))]
      exact refuse
