/-! the reference enters -/
/-- what is aimed at is entered -/
theorem en_cm {c : Nat → Nat → Nat} {d : Nat} {g : Nat → Nat → Bool} (hT : Tr (c 0 0) (c 1) (c 2) (c 3)) (hG : GoA c d g) : ∀ s, g 0 s = true → cmB c d g s = true := by
  intro s
  induction s using Nat.strongRecOn with
  | _ s ih =>
    intro hs
    obtain ⟨u1, u2, u3, u4, u5, u6⟩ := hG s hs
    have hp := hT.2.2.2.2 s u1 u2
    rw [cm_S hT u1 u2, decide_eq_true u3, Bool.true_and, Bool.and_eq_true]
    refine ⟨?_, ?_⟩
    · unfold cnD
      by_cases hq : c 1 s = d
      · rw [if_pos hq]
      · rw [if_neg hq]
        rcases u5 with v | v
        · exact absurd v hq
        · exact ih (c 1 s) hp.1 v
    · by_cases hk : c 2 (c 1 s) = 1
      · rw [decide_eq_true hk]; rfl
      · have hk0 : c 2 (c 1 s) = 0 := by omega
        have he : enc c (g 0) (c 1 s) = s := by
          unfold enc
          have hne : fstN (fun t => decide (c 1 t = c 1 s) && g 0 t) (c 0 0) 1 ≠ 0 := by
            intro z
            have := fst_n _ _ (by omega) z s u1 (by omega)
            rw [hs, decide_eq_true rfl] at this
            cases this
          have hz := fst_p _ _ (by omega) hne
          simp only [Bool.and_eq_true, decide_eq_true_eq] at hz
          exact u6 _ hz.1.2 hz.1.1 hk0
        unfold pkf
        rw [he, if_pos (by omega), decide_eq_true rfl]
        simp
/-- the children of one that is gone through -/
theorem fill_cm {c : Nat → Nat → Nat} {d p t : Nat} {g : Nat → Nat → Bool} {o : Nat → Bool} (hT : Tr (c 0 0) (c 1) (c 2) (c 3)) (hG : GoA c d g) (hH : HiV c) (hp : cnD c d g p = true) (hpl : p ≤ c 0 0) (hk : c 2 p ≤ 1) (ho : ∀ t, 1 ≤ t → t ≤ c 0 0 → c 1 t = p → o t = g 0 t) (t1 : 1 ≤ t) (t2 : t ≤ c 0 0) (htp : c 1 t = p) : (if c 2 p = 1 then o t || (decide (c 1 t = p) && decide (c 2 t ≤ 1)) else if anyN (fun t => decide (c 1 t = p) && o t) (c 0 0) = true then o t else o t || decide (t = pk2 c (g 1) p (dqB c d g p))) = cmB c d g t := by
  rw [cm_S hT t1 t2, htp, hp, Bool.true_and, ho t t1 t2 htp]
  by_cases hk1 : c 2 p = 1
  · rw [if_pos hk1, decide_eq_true hk1, decide_eq_true rfl]
    simp only [Bool.true_and, Bool.true_or, Bool.and_true]
    cases hx : g 0 t with
    | false => rfl
    | true =>
      rw [decide_eq_true (hG t hx).2.2.1]
      rfl
  · have hk0 : c 2 p = 0 := by omega
    rw [if_neg hk1, decide_eq_false hk1, Bool.false_or]
    have hany : (anyN (fun t => decide (c 1 t = p) && o t) (c 0 0) = true) ↔ enc c (g 0) p ≠ 0 := by
      rw [anyN_iff]
      constructor
      · rintro ⟨j, j1, j2, j3⟩ z
        simp only [Bool.and_eq_true, decide_eq_true_eq] at j3
        have := fst_n _ _ (by omega) z j j1 (by omega)
        rw [ho j j1 j2 j3.1] at j3
        rw [j3.2, decide_eq_true j3.1] at this
        cases this
      · intro z
        have hz := fst_p _ _ (by omega) z
        have hz1 := hz.1
        simp only [Bool.and_eq_true, decide_eq_true_eq] at hz1
        refine ⟨_, hz.2.1, by have := hz.2.2; omega, ?_⟩
        rw [ho _ hz.2.1 (by have := hz.2.2; omega) hz1.1]
        exact hz.1
    by_cases he : enc c (g 0) p ≠ 0
    · rw [if_pos (hany.mpr he)]
      unfold pkf
      rw [if_pos he]
      have hz := fst_p _ _ (by omega) he
      have hz1 := hz.1
      simp only [Bool.and_eq_true, decide_eq_true_eq] at hz1
      cases hx : g 0 t with
      | true =>
        have u := hG t hx
        have : enc c (g 0) p = t := u.2.2.2.2.2 _ hz1.2 (by rw [htp]; exact hz1.1) (by rw [htp]; exact hk0)
        rw [this, decide_eq_true rfl, decide_eq_true u.2.2.1]
        rfl
      | false =>
        have : enc c (g 0) p ≠ t := by
          intro z
          have h3 : g 0 (enc c (g 0) p) = true := hz1.2
          rw [z, hx] at h3
          cases h3
        rw [decide_eq_false this]
        simp
    · have he0 : enc c (g 0) p = 0 := by omega
      rw [if_neg (fun z => he (hany.mp z))]
      have hx : g 0 t = false := by
        have := fst_n _ _ (by omega) he0 t t1 (by omega)
        rw [decide_eq_true htp, Bool.true_and] at this
        exact this
      have epk : pkf c g p (dqB c d g p) = pk2 c (g 1) p (dqB c d g p) := by
        unfold pkf pk2
        rw [if_neg (by omega), Bool.or_comm]
      rw [hx, epk, Bool.false_or]
      by_cases hq : t = pk2 c (g 1) p (dqB c d g p)
      · rw [decide_eq_true hq, decide_eq_true hq.symm]
        have : c 2 t ≤ 1 := by
          unfold pk2 at hq
          by_cases hc : (dqB c d g p || g 1 p) = true ∧ c 13 p ≠ 0
          · rw [if_pos hc] at hq
            rcases hH p hpl with v | v
            · omega
            · rw [hq]; exact v.2.2.2
          · rw [if_neg hc] at hq
            rw [hq]
            exact (df_p (by omega)).2.2.2
        rw [decide_eq_true this]
        rfl
      · rw [decide_eq_false hq, decide_eq_false (show ¬ pk2 c (g 1) p (dqB c d g p) = t from fun z => hq z.symm)]
        simp
/-- what is not gone through has no children that are aimed at -/
theorem no_cm {c : Nat → Nat → Nat} {d p t : Nat} {g : Nat → Nat → Bool} (hT : Tr (c 0 0) (c 1) (c 2) (c 3)) (hG : GoA c d g) (hp : cnD c d g p = false) (t1 : 1 ≤ t) (t2 : t ≤ c 0 0) (htp : c 1 t = p) : g 0 t = false ∧ cmB c d g t = false := by
  have h1 : cmB c d g t = false := by
    rw [cm_S hT t1 t2, htp, hp]
    rfl
  refine ⟨?_, h1⟩
  by_cases hx : g 0 t = true
  · rw [en_cm hT hG t hx] at h1
    cases h1
  · simpa using hx
theorem cn_de {c : Nat → Nat → Nat} {d p : Nat} {g : Nat → Nat → Bool} (hT : Tr (c 0 0) (c 1) (c 2) (c 3)) (hpl : p ≤ c 0 0) (hp : cnD c d g p = true) : c 3 d ≤ c 3 p := by
  unfold cnD at hp
  by_cases hq : p = d
  · rw [hq]; exact Nat.le_refl _
  · rw [if_neg hq] at hp
    have := ins_lt hT p hpl (cm_in hT p hpl hp).2.1
    omega
