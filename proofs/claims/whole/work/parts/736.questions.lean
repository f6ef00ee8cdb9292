/-! questions: which one -/
theorem mk100_0 {β : Type} {x : Option β} : mck 0 100 x = x := mck_in (sI_in (k := 0) (by omega) (by omega))
theorem mk100_1 {β : Type} {x : Option β} : mck 1 100 x = x := mck_in (sI_in (k := 1) (by omega) (by omega))
theorem mk100_2 {β : Type} {x : Option β} : mck 2 100 x = x := mck_in (sI_in (k := 2) (by omega) (by omega))
theorem mzz_0 {β : Type} {x : Option β} : mzz 0 x = x := by unfold mzz; rw [if_pos (Or.inl rfl)]
theorem mzz_1 {β : Type} {x : Option β} : mzz 1 x = x := by unfold mzz; rw [if_pos (Or.inr rfl)]
theorem tz0 : (0 : Int32).toNatClampNeg = 0 := by decide
theorem tz1 : (1 : Int32).toNatClampNeg = 1 := by decide
theorem tz2 : (2 : Int32).toNatClampNeg = 2 := by decide
theorem SvQ_b {X N E : Nat} {S : Nat → Nat} {A A' M : mwM} {Lc Lm : mwL} {oc om : Option (mwM × mwL)} (h : svA A A') (hs : SvQ X N E S A' Lc M Lm oc om) : SvQ X N E S A Lc M Lm oc om := by
  obtain ⟨A1, L1, M1, L2, sz, v, e1, e2, ⟨b1, b2, b3⟩, r⟩ := hs
  exact ⟨A1, L1, M1, L2, sz, v, e1, e2, ⟨svA_t h b1, b2, b3⟩, r⟩
theorem ChO_fr {A A' M : mwM} {X : Nat} {own : Nat → Nat} (h : ChO A M X own) (hA : ∀ a y, 293 ≤ a → A' a y = A a y) : ChO A' M X own := by
  obtain ⟨h1, h2, h3, h4⟩ := h
  refine ⟨h1, h2, fun x u => ?_, fun x u1 u2 => ?_⟩
  · obtain ⟨q1, q2, q3⟩ := h3 x u
    exact ⟨q1, by rw [hA _ _ (by omega)]; exact q2, q3⟩
  · rw [hA _ _ (by omega)]; exact h4 x u1 u2
theorem KnC_fr {A A' : mwM} {S : Nat → Nat} {key : Nat} (h : KnC A S key) (hk : key < 17) (hA : ∀ a y, 101 ≤ a → a ≤ 136 → A' a y = A a y) : KnC A' S key := by
  obtain ⟨q1, q2, q3⟩ := h
  refine ⟨by rw [hA 136 key (by omega) (by omega)]; exact q1, fun i w => ?_, fun i w => ?_⟩
  · rw [hA _ i (by omega) (by omega)]; exact q2 i w
  · rw [hA _ i (by omega) (by omega)]; exact q3 i w
theorem st_serve {fu X N E c row n : Nat} {own : Nat → Nat} {S : Nat → Nat} {A M : mwM} {Lc Lm : mwL} {o : Nat → Nat} (hf : 200 ≤ fu) (hc : c < 6) (hE : E < 900000000) (hQ : QuR A M) (hT : RTr A M N E) (hC : RCd A M S) (hK : KnC A S 16) (hO : ChO A M X own) (hD : DtR Lc Lm X) (hrow : row < 275) (hrow2 : 153 < row) (hn : 1 ≤ n) (hn2 : n < 1000) (ho : ∀ i, i < n → A row i = sI (o i) ∧ M 932 i = sI (o i) ∧ o i < 256) : SvQ X N E S A Lc M Lm (DX7_makeReply fu (sI c) row 100 (sI n) A Lc) (DX19_serve fu (sI c) (sI n) M Lm) := by
  unfold DX7_makeReply fX7_makeReply_b155 fX7_makeReply_b189 DX7_isKnown fX7_isKnown_b36 fX7_isKnown_b41 DX7_isRightLength fX7_isRightLength_b119 fX7_isRightLength_b90 fX7_isRightLength_b107 fX7_isRightLength_b103 fX7_isRightLength_b108 fX7_isRightLength_b77 fX7_isRightLength_b65 fX7_isRightLength_b54 DX19_serve fX19_serve_b50 fX19_serve_b55 fX19_serve_b68 fX19_serve_b73 fX19_serve_b100 fX19_serve_b101 fX19_serve_b129 fX19_serve_b130 fX19_serve_b180 fX19_serve_b171 fX19_serve_b266
  simp only [mlet, mb2_id, mk100_0, mk100_1, mk100_2, mzz_0, mzz_1, tz0, tz1, tz2, mb3_s]
  generalize hA' : mset A 275 7 0 = A'
  have fA : ∀ a y, ¬ (a = 275 ∧ y = 7) → A' a y = A a y := fun a y u => by rw [← hA', mset_n u]
  refine SvQ_b (A' := A') (fun a y u => fA a y (by omega)) ?_
  have ho' : ∀ i, i < n → A' row i = sI (o i) ∧ M 932 i = sI (o i) ∧ o i < 256 := fun i u => by rw [fA row i (by omega)]; exact ho i u
  have hQ' : QuR A' M := QuR_fr hQ (fun a y u => fA a y (by omega)) (fun _ _ _ => rfl)
  have hT' : RTr A' M N E := RTr_fr hT (fun a y u1 u2 => fA a y (by omega)) (fun _ _ _ _ _ => rfl)
  have hC' : RCd A' M S := RCd_fr hC (fun a y u1 u2 => fA a y (by omega)) (fun _ _ _ => rfl)
  have hK' : KnC A' S 16 := KnC_fr hK (by omega) (fun a y u1 u2 => fA a y (by omega))
  have hO' : ChO A' M X own := ChO_fr hO (fun a y u => fA a y (by omega))
  have h7 : A' 275 7 = sI 0 := by rw [← hA', mset_s]; rfl
  clear hQ hT hC hK hO
  obtain ⟨p0, m0, v0⟩ := ho' 0 (by omega)
  by_cases s16 : o 0 = 16
  · rw [s16] at p0 m0
    have p0' : A' row 0 = 16 := p0
    have m0' : M 932 0 = 16 := m0
    simp (decide := true) only [p0', m0', ite_true, ite_false, mb3_s, mzz_1, mzz_0]
    by_cases hq : n = 2
    · subst hq
      obtain ⟨p1, m1, v1⟩ := ho' 1 (by omega)
      simp (decide := true) only [show sI 2 = 2 from rfl, ite_true, ite_false, mb3_s, p0', p1]
      exact st_session hc hQ' hT' hC' h7 v1 m0 m1
    · simp (decide := true) only [show ¬ sI n = 2 by rw [sI_eql (by omega) (by decide)]; exact hq, ite_true, ite_false, mb3_s, p0']
      exact st_no (x := 16) (w := 19) SvB_0 hQ' hT' hC' h7 (by omega) (by omega) m0
  · by_cases s34 : o 0 = 34
    · rw [s34] at p0 m0
      have p0' : A' row 0 = 34 := p0
      have m0' : M 932 0 = 34 := m0
      simp (decide := true) only [p0', m0', ite_true, ite_false, mb3_s, mzz_1, mzz_0]
      by_cases hq : n = 3
      · subst hq
        obtain ⟨p1, m1, v1⟩ := ho' 1 (by omega)
        obtain ⟨p2, m2, v2⟩ := ho' 2 (by omega)
        simp (decide := true) only [show sI 3 = 3 from rfl, ite_true, ite_false, mb3_s, p0', p1, p2]
        exact st_read (by omega) hc hQ' hT' hC' hO' hD h7 v1 v2 m0 m1 m2
      · simp (decide := true) only [show ¬ sI n = 3 by rw [sI_eql (by omega) (by decide)]; exact hq, ite_true, ite_false, mb3_s, p0']
        exact st_no (x := 34) (w := 19) SvB_0 hQ' hT' hC' h7 (by omega) (by omega) m0
    · by_cases s46 : o 0 = 46
      · rw [s46] at p0 m0
        have p0' : A' row 0 = 46 := p0
        have m0' : M 932 0 = 46 := m0
        simp (decide := true) only [p0', m0', ite_true, ite_false, mb3_s, mzz_1, mzz_0]
        by_cases hq : n = 11
        · subst hq
          simp (decide := true) only [show sI 11 = 11 from rfl, ite_true, ite_false, mb3_s, p0']
          exact st_write (by omega) hc hQ' hT' hC' hO' h7 hrow ho' s46 rfl rfl
        · simp (decide := true) only [show ¬ sI n = 11 by rw [sI_eql (by omega) (by decide)]; exact hq, ite_true, ite_false, mb3_s, p0']
          exact st_no (x := 46) (w := 19) SvB_0 hQ' hT' hC' h7 (by omega) (by omega) m0
      · by_cases s25 : o 0 = 25
        · rw [s25] at p0 m0
          have p0' : A' row 0 = 25 := p0
          have m0' : M 932 0 = 25 := m0
          simp (decide := true) only [p0', m0', ite_true, ite_false, mb3_s, mzz_1, mzz_0]
          by_cases hq : n = 1
          · subst hq
            simp (decide := true) only [show sI 1 = 1 from rfl, ite_true, ite_false, mb3_s, p0']
            exact st_list (by omega) hE hQ' hT' hC' h7
          · simp (decide := true) only [show ¬ sI n = 1 by rw [sI_eql (by omega) (by decide)]; exact hq, ite_true, ite_false, mb3_s, p0']
            exact st_no (x := 25) (w := 19) SvB_0 hQ' hT' hC' h7 (by omega) (by omega) m0
        · by_cases s20 : o 0 = 20
          · rw [s20] at p0 m0
            have p0' : A' row 0 = 20 := p0
            have m0' : M 932 0 = 20 := m0
            simp (decide := true) only [p0', m0', ite_true, ite_false, mb3_s, mzz_1, mzz_0]
            by_cases hq : n = 1
            · subst hq
              simp (decide := true) only [show sI 1 = 1 from rfl, ite_true, ite_false, mb3_s, p0']
              have := st_forget (X := X) (Lc := Lc) (Lm := Lm) (show 31 ≤ fu by omega) hQ' hT' hC' h7
              simp only [mb2_id] at this
              exact this
            · simp (decide := true) only [show ¬ sI n = 1 by rw [sI_eql (by omega) (by decide)]; exact hq, ite_true, ite_false, mb3_s, p0']
              exact st_no (x := 20) (w := 19) SvB_0 hQ' hT' hC' h7 (by omega) (by omega) m0
          · by_cases s39 : o 0 = 39
            · rw [s39] at p0 m0
              have p0' : A' row 0 = 39 := p0
              have m0' : M 932 0 = 39 := m0
              simp (decide := true) only [p0', m0', ite_true, ite_false, mb3_s, mzz_1, mzz_0]
              by_cases hq : n = 2
              · subst hq
                obtain ⟨p1, m1, v1⟩ := ho' 1 (by omega)
                simp (decide := true) only [show sI 2 = 2 from rfl, ite_true, ite_false, mb3_s, p0', p1, m1]
                by_cases hr : o 1 = 1
                · simp (decide := true) only [show sI (o 1) = 1 by rw [hr]; rfl, ite_true, ite_false, mb3_s, p0', p1]
                  exact st_seed (by omega) hc hQ' hT' hC' h7 m0
                · simp (decide := true) only [show ¬ sI (o 1) = 1 by rw [sI_eql (by omega) (by decide)]; exact hr, ite_true, ite_false, mb3_s, p0', p1]
                  exact st_no (x := 39) (w := 19) SvB_0 hQ' hT' hC' h7 (by omega) (by omega) m0
              · by_cases hq6 : n = 6
                · subst hq6
                  obtain ⟨p1, m1, v1⟩ := ho' 1 (by omega)
                  simp (decide := true) only [show sI 6 = 6 from rfl, ite_true, ite_false, mb3_s, p0', p1, m1]
                  by_cases hr : o 1 = 2
                  · simp (decide := true) only [show sI (o 1) = 2 by rw [hr]; rfl, ite_true, ite_false, mb3_s, p0', p1]
                    exact st_key hf hc hQ' hT' hC' hK' h7 hrow hrow2 ho' s39
                  · simp (decide := true) only [show ¬ sI (o 1) = 2 by rw [sI_eql (by omega) (by decide)]; exact hr, ite_true, ite_false, mb3_s, p0', p1]
                    exact st_no (x := 39) (w := 19) SvB_0 hQ' hT' hC' h7 (by omega) (by omega) m0
                · simp (decide := true) only [show ¬ sI n = 2 by rw [sI_eql (by omega) (by decide)]; exact hq, show ¬ sI n = 6 by rw [sI_eql (by omega) (by decide)]; exact hq6, ite_true, ite_false, mb3_s, p0']
                  exact st_no (x := 39) (w := 19) SvB_0 hQ' hT' hC' h7 (by omega) (by omega) m0
            · have n16 : ¬ sI (o 0) = 16 := by rw [sI_eql (by omega) (by decide)]; exact s16
              have n34 : ¬ sI (o 0) = 34 := by rw [sI_eql (by omega) (by decide)]; exact s34
              have n46 : ¬ sI (o 0) = 46 := by rw [sI_eql (by omega) (by decide)]; exact s46
              have n25 : ¬ sI (o 0) = 25 := by rw [sI_eql (by omega) (by decide)]; exact s25
              have n20 : ¬ sI (o 0) = 20 := by rw [sI_eql (by omega) (by decide)]; exact s20
              have n39 : ¬ sI (o 0) = 39 := by rw [sI_eql (by omega) (by decide)]; exact s39
              simp (decide := true) only [p0, m0, n16, n34, n46, n25, n20, n39, ite_true, ite_false, mb3_s, mzz_1, mzz_0]
              exact st_no (w := 17) SvB_0 hQ' hT' hC' h7 v0 (by omega) m0
