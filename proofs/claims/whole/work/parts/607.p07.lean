/-! the reference enters, all in all -/
def pz (c : Nat → Nat → Nat) (j i s : Nat) : Bool := decide (c 3 s < j) || (decide (c 3 s = j) && decide (s < i))
theorem pz_S {c : Nat → Nat → Nat} {j i s : Nat} : pz c j (i + 1) s = (pz c j i s || (decide (c 3 s = j) && decide (s = i))) := by
  unfold pz
  by_cases h1 : c 3 s < j
  · rw [decide_eq_true h1]; rfl
  · rw [decide_eq_false h1]
    by_cases h2 : c 3 s = j
    · rw [decide_eq_true h2]
      by_cases h3 : s < i
      · rw [decide_eq_true h3, decide_eq_true (show s < i + 1 by omega)]; rfl
      · rw [decide_eq_false h3]
        by_cases h4 : s = i
        · rw [decide_eq_true h4, decide_eq_true (show s < i + 1 by omega)]; rfl
        · rw [decide_eq_false h4, decide_eq_false (show ¬ s < i + 1 by omega)]; rfl
    · rw [decide_eq_false h2]; rfl
theorem pz_N {c : Nat → Nat → Nat} {j n i s : Nat} (hs : s < n) (hi : i ≤ s) : pz c j n s = pz c (j + 1) i s := by
  unfold pz
  by_cases h1 : c 3 s < j
  · rw [decide_eq_true h1, decide_eq_true (show c 3 s < j + 1 by omega)]; rfl
  · rw [decide_eq_false h1]
    by_cases h2 : c 3 s = j
    · rw [decide_eq_true h2, decide_eq_true hs, decide_eq_true (show c 3 s < j + 1 by omega)]; rfl
    · rw [decide_eq_false h2, decide_eq_false (show ¬ c 3 s < j + 1 by omega), decide_eq_false (show ¬ s < i by omega)]
      simp
theorem m_enter {fu : Nat} {M : mwM} {L : mwL} {q e d now : Nat} {c : Nat → Nat → Nat} {b : Nat → Nat → Bool} {va : Nat → Int32} {D : Nat → Int64} {x : Nat → Int32} {g : Nat → Nat → Bool} (hf : 601 ≤ fu) (hv : Cv c) (hH : HiV c) (h : ReM q M L c b va D x) (he : e ≤ c 0 1) (hd : d = if e = 0 then 0 else doE c e) (hk0 : c 2 d = 0) (hgg : g = if e = 0 then (fun _ _ => false) else aiN c e d (c 0 1)) : wq (DX13_enter fu q (sI d) (sI e) (sL now) M L) (fun z => ReM q z.1 z.2 (ent c (cmB c d g) now) (enb b (cmB c d g)) va (alo (cmB c d g) (acD c va 0) (riL (c 3) (c 0 0) 42) D) x ∧ (∀ a y, ¬ (q + 7 ≤ a ∧ a ≤ q + 9) → ¬ (a = q + 22 ∨ (q + 27 ≤ a ∧ a ≤ q + 29)) → ¬ (a = q ∧ y = 31) → z.1 a y = M a y) ∧ ∀ a, a ≠ q + 6 → a ≠ q + 21 → z.2 a = L a) := by
  have hT := hv.1
  have hE := hv.2.1
  have hN := hT.1
  have hE4 := hE.1
  have b0 : vp_nar .boolean (0 : Int32) = bI false := by decide
  have b1 : vp_nar .boolean (1 : Int32) = bI true := by decide
  have hdl : d ≤ c 0 0 := by
    rw [hd]
    split
    · omega
    · exact doE_le
  have hdg : 1 ≤ e → d = 0 ∨ goodB (c 1) (c 2) (c 3) (c 4) (c 5) (c 0 1) d e = true := by
    intro he1
    rw [hd, if_neg (by omega)]
    rcases do_good hv (e := e) with w | w
    · exact Or.inl w
    · exact Or.inr w.2
  have hG : GoA c d g := by
    rw [hgg]
    by_cases he0 : e = 0
    · rw [if_pos he0]; exact GoA_0
    · rw [if_neg he0]
      rw [if_neg he0] at hd
      rw [hd]
      exact GoA_N hv _ (Nat.le_refl _)
  obtain ⟨hM, hEM, hXM, hf4, h5, h6, h7, h8⟩ := h
  obtain ⟨rw0, hr0, hr1⟩ := hf4.2.2.2.2.2.2
  generalize hQ : (fun z : mwM × mwL => ReM q z.1 z.2 (ent c (cmB c d g) now) (enb b (cmB c d g)) va (alo (cmB c d g) (acD c va 0) (riL (c 3) (c 0 0) 42) D) x ∧ (∀ a y, ¬ (q + 7 ≤ a ∧ a ≤ q + 9) → ¬ (a = q + 22 ∨ (q + 27 ≤ a ∧ a ≤ q + 29)) → ¬ (a = q ∧ y = 31) → z.1 a y = M a y) ∧ ∀ a, a ≠ q + 6 → a ≠ q + 21 → z.2 a = L a) = Q
  -- the last way: entering by levels
  have last : ∀ B : mwM, (∀ s, 1 ≤ s → s ≤ c 0 0 → B (q + 27) s = bI (cmB c d g s)) → (∀ a y, ¬ (q + 27 ≤ a ∧ a ≤ q + 29) → B a y = M a y) → wq (fX13_enter_h163 fu q (sI d) (sI e) (sL now) fu (0, B, L)) Q := by
    intro B o1 o2
    generalize hcm : cmB c d g = cm at *
    refine wq_for (body := fun r z => fX13_enter_i163 fu q (sI d) (sI e) (sL now) r z.1 z.2.1 z.2.2) (fun j (w : mwM × mwL) => (sI j, w.1, w.2)) (fun j w => (∀ s, 1 ≤ s → s ≤ c 0 0 → w.1 (q + 9) s = bI (b 0 s || (cm s && pz c j 1 s)) ∧ w.2 (q + 6) s = sL (if (cm s && pz c j 1 s) = true then now else c 14 s) ∧ w.1 (q + 7) s = bI (b 1 s && !(cm s && pz c j 1 s)) ∧ w.1 (q + 8) s = bI (b 2 s || (cm s && pz c j 1 s))) ∧ w.2 (q + 21) = riI (c 3) (c 0 0) cm (acD c va 0) D j ∧ (∃ r, r ≤ 500 ∧ w.1 q 31 = sI r) ∧ w.1 (q + 9) 0 = M (q + 9) 0 ∧ (∀ a, a ≠ q + 6 → a ≠ q + 21 → w.2 a = L a) ∧ ∀ a y, ¬ (q + 7 ≤ a ∧ a ≤ q + 9) → a ≠ q + 22 → ¬ (a = q ∧ y = 31) → w.1 a y = B a y) 42 ?_ ?_ 42 0 (B, L) fu (by omega) (by omega) ⟨?_, hf4.2.2.2.2.2.1, ⟨rw0, hr0, ?_⟩, ?_, fun _ _ _ => rfl, fun _ _ _ _ _ => rfl⟩
    · rintro j ⟨a, l⟩ r163 hj ⟨q1, q2, ⟨rw1, q3, q4⟩, q5, q6, q7⟩ ih
      dsimp only at q1 q2 q4 q5 q6 q7
      show wq (fX13_enter_i163 fu q (sI d) (sI e) (sL now) r163 (sI j) a l) _
      have key := fun (X : mwM) (Y : mwL) => ih (X, Y)
      dsimp only at key
      unfold fX13_enter_i163
      rw [if_neg (by rw [sI_lle (by decide) (by omega)]; omega)]
      refine wq_for (body := fun r z => fX13_enter_i173 fu q (sI d) (sI e) (sL now) r163 r z.1 z.2.1 z.2.2.1 z.2.2.2) (fun i (w : mwM × mwL) => (sI j, sI i, w.1, w.2)) (fun i w => 1 ≤ i ∧ (∀ s, 1 ≤ s → s ≤ c 0 0 → w.1 (q + 9) s = bI (b 0 s || (cm s && pz c j i s)) ∧ w.2 (q + 6) s = sL (if (cm s && pz c j i s) = true then now else c 14 s) ∧ w.1 (q + 7) s = bI (b 1 s && !(cm s && pz c j i s)) ∧ w.1 (q + 8) s = bI (b 2 s || (cm s && pz c j i s))) ∧ w.2 (q + 21) = nsI (fun s => cm s && decide (c 3 s = j)) (acD c va 0) (i - 1) (riI (c 3) (c 0 0) cm (acD c va 0) D j) ∧ (∃ r, r ≤ 500 ∧ w.1 q 31 = sI r) ∧ w.1 (q + 9) 0 = M (q + 9) 0 ∧ (∀ a, a ≠ q + 6 → a ≠ q + 21 → w.2 a = L a) ∧ ∀ a y, ¬ (q + 7 ≤ a ∧ a ≤ q + 9) → a ≠ q + 22 → ¬ (a = q ∧ y = 31) → w.1 a y = B a y) (c 0 0 + 1) ?_ ?_ (c 0 0) 1 (a, l) fu (by omega) (by omega) ⟨Nat.le_refl _, q1, q2, ⟨rw1, q3, q4⟩, q5, q6, q7⟩
      · rintro i ⟨a, l⟩ r hi ⟨hi1, t1, t2, ⟨rw2, t3, t4⟩, t5, t6, t7⟩ ih2
        dsimp only at t1 t2 t4 t5 t6 t7
        show wq (fX13_enter_i173 fu q (sI d) (sI e) (sL now) r163 r (sI j) (sI i) a l) _
        have key2 := fun (X : mwM) (Y : mwL) => ih2 (X, Y)
        dsimp only at key2
        obtain ⟨n, rfl⟩ : ∃ n, i = n + 1 := ⟨i - 1, by omega⟩
        simp only [show n + 1 + 1 - 1 = n + 1 from rfl] at key2
        rw [Nat.add_sub_cancel] at t2
        have hde := (Tr_pa hT (show n + 1 ≤ c 0 0 by omega)).2.2.2.2
        have e2 : a q 2 = sI (c 0 0) := by rw [t7 _ _ (by omega) (by omega) (by omega), o2 _ _ (by omega)]; exact hM.1
        have e27 : a (q + 27) (n + 1) = bI (cm (n + 1)) := by rw [t7 _ _ (by omega) (by omega) (by omega)]; exact o1 _ (by omega) (by omega)
        have e3 : a (q + 3) (n + 1) = sI (c 3 (n + 1)) := by rw [t7 _ _ (by omega) (by omega) (by omega), o2 _ _ (by omega)]; exact (hM.2 _ (by omega)).2.2
        have ens : ∀ D0, nsI (fun s => cm s && decide (c 3 s = j)) (acD c va 0) (n + 1) D0 = if (cm (n + 1) && decide (c 3 (n + 1) = j)) = true then acD c va 0 (n + 1) (nsI (fun s => cm s && decide (c 3 s = j)) (acD c va 0) n D0) else nsI (fun s => cm s && decide (c 3 s = j)) (acD c va 0) n D0 := fun D0 => rfl
        have skip : (cm (n + 1) && decide (c 3 (n + 1) = j)) = false → wq (r (sI j, sI (n + 1 + 1), a, l)) Q := by
          intro hno
          refine key2 a l ⟨by omega, fun s u1 u2 => ?_, ?_, ⟨rw2, t3, t4⟩, t5, t6, t7⟩
          · have := t1 s u1 u2
            rw [pz_S]
            by_cases hq : s = n + 1
            · subst hq
              by_cases hc : cm (n + 1) = true
              · rw [hc, Bool.true_and] at hno
                rw [hno, Bool.false_and, Bool.or_false]
                exact this
              · have hc' : cm (n + 1) = false := by simpa using hc
                rw [hc'] at this ⊢
                exact this
            · rw [decide_eq_false hq, Bool.and_false, Bool.or_false]
              exact this
          · rw [ens, hno, if_neg (by decide)]
            exact t2
        unfold fX13_enter_i173 fX13_enter_b251
        simp (disch := omega) only [e2, e27, e3, mck_s, sI_nn, nn_s, sI_lt, sI_le, sI_eq, sI_ltl, sI_lel, sI_eql, sI_llt, sI_lle, sI_1, bI_0, bI_1, bI_n, mlet, mb3_s, mb2_s]
        rw [if_neg (by omega)]
        cases hc : cm (n + 1) with
        | false =>
          rw [if_pos rfl]
          exact skip (by rw [hc]; rfl)
        | true =>
          rw [if_neg (by decide)]
          by_cases hdj : c 3 (n + 1) = j
          · rw [if_pos hdj]
            refine wq_b2 (m_note (rw' := rw2) t4 t3) ?_
            rintro M1 L1 ⟨y1, ⟨rw3, y2, y4⟩, y3⟩
            dsimp only at y1 y4 y3
            subst y1
            simp (disch := omega) only [b0, b1, mck_s, sI_nn, nn_s, sI_lt, sI_le, sI_eq, sI_ltl, sI_lel, sI_eql, sI_llt, sI_lle, sI_1, bI_0, bI_1, bI_n, mlet, mb3_s, mb2_s]
            refine wq_b2 (m_doActs (rw' := rw3) (w := 0) (o := n + 1) (n := c 0 2) (ax := fun i => c (8 + i)) (va := va) (by omega) hv.2.2.1 ⟨?_, fun i hi => ?_⟩ (by omega) (by omega) ?_ y2) ?_
            · simp (disch := omega) only [mset_n, y3, t7, o2]; exact hXM.1
            · have := hXM.2 i hi
              rw [← t6 (q + 20) (by omega) (by omega)] at this
              simp (disch := omega) only [mset_n, y3, t7, o2]; exact this
            · simp (disch := omega) only [mset_n]; exact y4
            rintro M2 L2 ⟨z1, z2, z3, z4⟩
            dsimp only at z1 z2 z3 z4
            refine key2 M2 L2 ⟨by omega, fun s u1 u2 => ?_, ?_, z3, ?_, fun a' u1 u2 => ?_, fun a' y u1 u2 u3 => ?_⟩
            · have := t1 s u1 u2
              rw [pz_S, z2 _ (by omega)]
              by_cases hq : s = n + 1
              · subst hq
                rw [hc, decide_eq_true hdj, decide_eq_true rfl]
                simp (disch := omega) only [z4, mset_n, mset_s]
                simp
              · rw [decide_eq_false hq, Bool.and_false, Bool.or_false]
                simp (disch := omega) only [z4, mset_n, y3]
                exact this
            · rw [ens, hc, decide_eq_true hdj, Bool.and_self, if_pos rfl, z1, mset_rown (by omega), t2]
              rfl
            · simp (disch := omega) only [z4, mset_n, y3]; exact t5
            · rw [z2 _ u2, mset_rown u1]; exact t6 a' u1 u2
            · rw [z4 _ _ u3 u2]
              simp (disch := omega) only [mset_n, y3]
              exact t7 a' y u1 u2 u3
          · rw [if_neg hdj]
            exact skip (by rw [hc, decide_eq_false hdj]; rfl)
      · rintro ⟨a, l⟩ r ⟨_, t1, t2, t3, t5, t6, t7⟩
        dsimp only at t1 t2 t3 t5 t6 t7
        show wq (fX13_enter_i173 fu q (sI d) (sI e) (sL now) r163 r (sI j) (sI (c 0 0 + 1)) a l) _
        have e2 : a q 2 = sI (c 0 0) := by rw [t7 _ _ (by omega) (by omega) (by omega), o2 _ _ (by omega)]; exact hM.1
        unfold fX13_enter_i173
        rw [e2, if_pos (by rw [sI_lt (by omega) (by omega)]; omega)]
        simp only [mlet]
        rw [sI_1]
        refine key a l ⟨fun s u1 u2 => ?_, t2, t3, t5, t6, t7⟩
        have := t1 s u1 u2
        rw [pz_N (show s < c 0 0 + 1 by omega) u1] at this
        exact this
    · rintro ⟨a, l⟩ r ⟨q1, q2, q3, q5, q6, q7⟩
      dsimp only at q1 q2 q3 q5 q6 q7
      show wq (fX13_enter_i163 fu q (sI d) (sI e) (sL now) r (sI 42) a l) _
      unfold fX13_enter_i163
      rw [if_pos (by decide), ← hQ]
      have fr : ∀ a' y, ¬ (q + 7 ≤ a' ∧ a' ≤ q + 9) → ¬ (a' = q + 22 ∨ (q + 27 ≤ a' ∧ a' ≤ q + 29)) → ¬ (a' = q ∧ y = 31) → a a' y = M a' y := fun a' y u1 u2 u3 => by rw [q7 _ _ u1 (by omega) u3, o2 _ _ (by omega)]
      refine wq_some ⟨?_, fr, q6⟩
      dsimp only
      have ec : ∀ i, i ≠ 14 → ent c cm now i = c i := by
        intro i hi
        funext j
        unfold ent
        rw [if_neg (fun z => hi z.1)]
      have eb : ∀ i, 3 ≤ i → enb b cm i = b i := by
        intro i hi
        funext j
        unfold enb
        rw [if_neg (by omega), if_neg (by omega), if_neg (by omega)]
      unfold ReM
      rw [ec 0 (by omega), ec 1 (by omega), ec 2 (by omega), ec 3 (by omega), ec 4 (by omega), ec 5 (by omega), ec 6 (by omega), ec 7 (by omega), ec 12 (by omega), ec 13 (by omega), eb 3 (by omega), eb 4 (by omega), eb 5 (by omega), eb 6 (by omega)]
      refine ⟨TrM_f hM (fr _ _ (by omega) (by omega) (by omega)) (fun a s u1 u2 => fr _ _ (by omega) (by omega) (by omega)), ?_, ?_, ?_, ?_, ?_, ?_, ?_⟩
      · refine ⟨?_, fun e u1 u2 => ?_⟩
        · simp (disch := omega) only [fr]; exact hEM.1
        · simp (disch := omega) only [fr]; exact hEM.2 e u1 u2
      · refine ⟨?_, fun i hi => ?_⟩
        · simp (disch := omega) only [fr]; exact hXM.1
        · have := hXM.2 i hi
          dsimp only at this ⊢
          rw [ec _ (by omega), ec _ (by omega), ec _ (by omega), ec _ (by omega), q6 _ (by omega) (by omega)]
          simp (disch := omega) only [fr]; exact this
      · rw [q2, ri_alo]
        simp (disch := omega) only [fr]
        exact ⟨hf4.1, hf4.2.1, hf4.2.2.1, hf4.2.2.2.1, hf4.2.2.2.2.1, trivial, q3⟩
      · intro s hs
        rw [q6 _ (by omega) (by omega)]
        simp (disch := omega) only [fr]; exact h5 s hs
      · intro s u1 hs
        have := q1 s u1 hs
        have hde := (Tr_pa hT hs).2.2.2.2
        have hp : pz c 42 1 s = true := by
          unfold pz
          rw [decide_eq_true (show c 3 s < 42 by omega)]
          rfl
        rw [hp, Bool.and_true] at this
        refine ⟨this.1, ?_, this.2.2.1, this.2.2.2⟩
        rw [this.2.1]
        unfold ent
        by_cases hq : cm s = true
        · rw [if_pos hq, if_pos ⟨rfl, hq⟩]
        · rw [if_neg hq, if_neg (fun z => hq z.2)]
      · rw [q5]; exact h7
      · intro e u1 u2
        simp (disch := omega) only [fr]; exact h8 e u1 u2
    · intro s u1 u2
      have := h6 s u1 u2
      have hd1 := (hT.2.2.2.2 s u1 u2).2.1
      have hp : pz c 0 1 s = false := by
        unfold pz
        rw [decide_eq_false (show ¬ c 3 s < 0 by omega), decide_eq_false (show ¬ s < 1 by omega)]
        simp
      rw [hp]
      simp only [Bool.and_false, Bool.or_false, Bool.not_false, Bool.and_true]
      rw [if_neg (by decide)]
      simp (disch := omega) only [o2]
      exact this
    · dsimp only
      rw [o2 _ _ (by omega)]; exact hr1
    · dsimp only
      rw [o2 _ _ (by omega)]
  -- the levels: filling
  have fills : ∀ B : mwM, GrM B q (c 0 0) g → (∀ a y, ¬ (q + 27 ≤ a ∧ a ≤ q + 29) → B a y = M a y) → wq (fX13_enter_b86 fu q (sI d) (sI e) (sL now) B L) Q := by
    intro B o1 o2
    have hdd := (Tr_pa hT hdl).2.2.2.2
    have e3d : B (q + 3) d = sI (c 3 d) := (o2 _ _ (by omega)).trans (hM.2 d hdl).2.2
    unfold fX13_enter_b86
    simp (disch := omega) only [e3d, mck_s, sI_nn, nn_s, sI_lt, sI_le, sI_eq, sI_ltl, sI_lel, sI_eql, sI_llt, sI_lle, sI_1, bI_0, bI_1, bI_n, mlet, mb3_s, mb2_s]
    refine wq_for (body := fun r z => fX13_enter_i94 fu q (sI d) (sI e) (sL now) r z.1 z.2.1 z.2.2) (fun i (a : mwM) => (sI i, a, L)) (fun j a => c 3 d ≤ j ∧ (∀ t, 1 ≤ t → t ≤ c 0 0 → a (q + 27) t = bI (if pz c j 0 (c 1 t) = true then cmB c d g t else g 0 t)) ∧ (∀ p, p ≤ c 0 0 → a (q + 28) p = bI (g 1 p) ∧ a (q + 29) p = bI (if (pz c j 0 p && cnD c d g p) = true then dqB c d g p else g 2 p)) ∧ ∀ a' y, ¬ (q + 27 ≤ a' ∧ a' ≤ q + 29) → a a' y = M a' y) 42 ?_ ?_ (42 - c 3 d) (c 3 d) B fu (by omega) (by omega) ⟨Nat.le_refl _, fun t u1 u2 => ?_, fun p hp => ⟨(o1 p hp).2.1, ?_⟩, o2⟩
    · intro j a r94 hj ⟨hj0, p1, p2, p3⟩ ih
      show wq (fX13_enter_i94 fu q (sI d) (sI e) (sL now) r94 (sI j) a L) _
      unfold fX13_enter_i94
      rw [if_neg (by rw [sI_lle (by decide) (by omega)]; omega)]
      refine wq_for (body := fun r z => fX13_enter_i104 fu q (sI d) (sI e) (sL now) r94 r z.1 z.2.1 z.2.2.1 z.2.2.2) (fun i (a : mwM) => (sI j, sI i, a, L)) (fun i a => (∀ t, 1 ≤ t → t ≤ c 0 0 → a (q + 27) t = bI (if pz c j i (c 1 t) = true then cmB c d g t else g 0 t)) ∧ (∀ p, p ≤ c 0 0 → a (q + 28) p = bI (g 1 p) ∧ a (q + 29) p = bI (if (pz c j i p && cnD c d g p) = true then dqB c d g p else g 2 p)) ∧ ∀ a' y, ¬ (q + 27 ≤ a' ∧ a' ≤ q + 29) → a a' y = M a' y) (c 0 0 + 1) ?_ ?_ (c 0 0 + 1) 0 a fu (by omega) (by omega) ⟨p1, p2, p3⟩
      · intro s a r hs ⟨t1, t2, t3⟩ ih2
        show wq (fX13_enter_i104 fu q (sI d) (sI e) (sL now) r94 r (sI j) (sI s) a L) _
        have aM : TrM a q (c 0 0) (c 1) (c 2) (c 3) := TrM_f hM (t3 _ _ (by omega)) (fun d s u1 u2 => t3 _ _ (by omega))
        have hps := Tr_pa hT (show s ≤ c 0 0 by omega)
        have e3 := (aM.2 s (by omega)).2.2
        -- it is not gone through
        have skip : (c 3 s = j → cnD c d g s = false) → wq (r (sI j, sI (s + 1), a, L)) Q := by
          intro hno
          refine ih2 a ⟨fun t u1 u2 => ?_, fun p hp => ⟨(t2 p hp).1, ?_⟩, t3⟩
          · rw [t1 t u1 u2, pz_S]
            by_cases hq : c 3 (c 1 t) = j ∧ c 1 t = s
            · have := no_cm hT hG (hno (by rw [← hq.2]; exact hq.1)) u1 u2 hq.2
              rw [this.1, this.2]
              simp
            · have : (decide (c 3 (c 1 t) = j) && decide (c 1 t = s)) = false := by
                by_cases h1 : c 3 (c 1 t) = j
                · rw [decide_eq_false (show ¬ c 1 t = s from fun z => hq ⟨h1, z⟩)]; simp
                · rw [decide_eq_false h1]; rfl
              rw [this, Bool.or_false]
          · rw [(t2 p hp).2, pz_S]
            by_cases hq : c 3 p = j ∧ p = s
            · have := hno (by rw [← hq.2]; exact hq.1)
              rw [← hq.2] at this
              rw [this]
              simp
            · have : (decide (c 3 p = j) && decide (p = s)) = false := by
                by_cases h1 : c 3 p = j
                · rw [decide_eq_false (show ¬ p = s from fun z => hq ⟨h1, z⟩)]; simp
                · rw [decide_eq_false h1]; rfl
              rw [this, Bool.or_false]
        -- it is gone through
        have fill : c 3 s = j → cnD c d g s = true → wq (fX13_enter_b141 fu q (sI d) (sI e) (sL now) r94 r (sI j) (sI s) a L) Q := by
          intro hsj hcn
          have hks : c 2 s ≤ 1 := by
            have hcn' := hcn
            unfold cnD at hcn'
            by_cases hq : s = d
            · rw [hq]; omega
            · rw [if_neg hq] at hcn'
              exact (cm_in hT s (by omega) hcn').2.2
          have hpzs : pz c j s s = false := by
            unfold pz
            rw [decide_eq_false (show ¬ c 3 s < j by omega), decide_eq_false (show ¬ s < s by omega)]
            simp
          unfold fX13_enter_b141 fX13_enter_b148
          refine wq_b2 (m_fill (o := fun t => if pz c j s (c 1 t) = true then cmB c d g t else g 0 t) (g1 := g 1) (w := fun p => if (pz c j s p && cnD c d g p) = true then dqB c d g p else g 2 p) (by omega) hT aM t1 (fun p hp => (t2 p hp).1) (fun p hp => (t2 p hp).2) (fun p hp => (t3 _ _ (by omega)).trans (h5 p hp).2) hH (by omega) hdl hks) ?_
          rintro M1 L1 ⟨y1, y2, y3, y4⟩
          dsimp only at y1 y2 y3 y4
          subst y1
          simp only [mlet]
          rw [sI_1]
          have edq : ((if (pz c j s s && cnD c d g s) = true then dqB c d g s else g 2 s) || (decide (s ≠ d) && (if (pz c j s (c 1 s) && cnD c d g (c 1 s)) = true then dqB c d g (c 1 s) else g 2 (c 1 s)))) = dqB c d g s := by
            rw [hpzs, Bool.false_and, if_neg (by decide)]
            by_cases hsd : s = d
            · rw [decide_eq_false (fun z => z hsd), Bool.false_and, Bool.or_false]
              unfold dqB
              rw [if_pos hsd, hsd]
            · rw [decide_eq_true hsd, Bool.true_and]
              have hcm : cmB c d g s = true := by
                have := hcn
                unfold cnD at this
                rw [if_neg hsd] at this
                exact this
              have hs1 := (cm_in hT s (by omega) hcm).1
              have hpp := hT.2.2.2.2 s hs1 (by omega)
              have hcnp : cnD c d g (c 1 s) = true := by
                rw [cm_S hT hs1 (by omega)] at hcm
                simp only [Bool.and_eq_true] at hcm
                exact hcm.1
              have hpz : pz c j s (c 1 s) = true := by
                unfold pz
                rw [decide_eq_true (show c 3 (c 1 s) < j by omega)]
                rfl
              rw [hpz, hcnp, Bool.and_self, if_pos rfl]
              exact (dq_S hT hs1 (by omega) hsd).symm
          rw [edq] at y2 y3
          refine ih2 M1 ⟨fun t u1 u2 => ?_, fun p hp => ?_, fun a' y u => ?_⟩
          · rw [y3 t u1 u2, pz_S]
            by_cases htp : c 1 t = s
            · have hpzt : pz c j s (c 1 t) = false := by rw [htp]; exact hpzs
              have := fill_cm (o := fun t => if pz c j s (c 1 t) = true then cmB c d g t else g 0 t) hT hG hH hcn (show s ≤ c 0 0 by omega) hks (fun t' v1 v2 v3 => by rw [v3, hpzs, if_neg (by decide)]) u1 u2 htp
              rw [this, htp, decide_eq_true hsj, decide_eq_true rfl]
              simp
            · rw [decide_eq_false htp, Bool.and_false, Bool.or_false, Bool.false_and, Bool.or_false]
              congr 1
              by_cases hk1 : c 2 s = 1
              · rw [if_pos hk1]
              · rw [if_neg hk1]
                have : decide (t = pk2 c (g 1) s (dqB c d g s)) = false := by
                  refine decide_eq_false (fun z => htp ?_)
                  unfold pk2 at z
                  by_cases hc : (dqB c d g s || g 1 s) = true ∧ c 13 s ≠ 0
                  · rw [if_pos hc] at z
                    rcases hH s (by omega) with v | v
                    · omega
                    · rw [z]; exact v.2.2.1
                  · rw [if_neg hc] at z
                    rw [z]
                    exact (df_p (by omega)).2.2.1
                rw [this, Bool.or_false]
                split
                · rfl
                · rfl
          · by_cases hq : p = s
            · subst hq
              rw [y2, y4 _ _ (by omega) (by omega), pz_S, hcn, decide_eq_true hsj, decide_eq_true rfl]
              refine ⟨(t2 p hp).1, ?_⟩
              simp
            · rw [y4 _ _ (by omega) (by omega), y4 _ _ (by omega) (by omega), pz_S, decide_eq_false hq, Bool.and_false, Bool.or_false]
              exact t2 p hp
          · rw [y4 _ _ (by omega) (by omega)]; exact t3 a' y u
        unfold fX13_enter_i104 fX13_enter_b148
        simp (disch := omega) only [aM.1, e3, mck_s, sI_nn, nn_s, sI_lt, sI_le, sI_eq, sI_ltl, sI_lel, sI_eql, sI_llt, sI_lle, sI_1, bI_0, bI_1, bI_n, mlet, mb3_s, mb2_s]
        rw [if_neg (by omega)]
        by_cases hsj : c 3 s = j
        · rw [if_pos hsj]
          by_cases hsd : s = d
          · rw [if_pos hsd]
            exact fill hsj (by unfold cnD; rw [if_pos hsd])
          · rw [if_neg hsd]
            have hs1 : 1 ≤ s := by
              rcases Nat.eq_zero_or_pos s with v | v
              · exfalso
                rw [v, hT.2.2.2.1] at hsj
                have : d = 0 := by
                  rcases Nat.eq_zero_or_pos d with w | w
                  · exact w
                  · have := (hT.2.2.2.2 d w hdl).2.1
                    omega
                omega
              · exact v
            have hpp := hT.2.2.2.2 s hs1 (by omega)
            have e27 := t1 s hs1 (by omega)
            have hpz : pz c j s (c 1 s) = true := by
              unfold pz
              rw [decide_eq_true (show c 3 (c 1 s) < j by omega)]
              rfl
            rw [hpz, if_pos rfl] at e27
            simp (disch := omega) only [e27, mck_s, sI_nn, nn_s, sI_lt, sI_le, sI_eq, sI_ltl, sI_lel, sI_eql, sI_llt, sI_lle, sI_1, bI_0, bI_1, bI_n, mlet, mb3_s, mb2_s]
            cases hcm : cmB c d g s with
            | false =>
              rw [if_pos rfl]
              exact skip (fun _ => by unfold cnD; rw [if_neg hsd]; exact hcm)
            | true =>
              rw [if_neg (by decide)]
              exact fill hsj (by unfold cnD; rw [if_neg hsd]; exact hcm)
        · rw [if_neg hsj]
          exact skip (fun z => absurd z hsj)
      · intro a r ⟨t1, t2, t3⟩
        show wq (fX13_enter_i104 fu q (sI d) (sI e) (sL now) r94 r (sI j) (sI (c 0 0 + 1)) a L) _
        unfold fX13_enter_i104
        rw [t3 _ _ (by omega), hM.1, if_pos (by rw [sI_lt (by omega) (by omega)]; omega)]
        simp only [mlet]
        rw [sI_1]
        refine ih a ⟨by omega, fun t u1 u2 => ?_, fun p hp => ⟨(t2 p hp).1, ?_⟩, t3⟩
        · have hpt := (Tr_pa hT u2).1
          rw [t1 t u1 u2, pz_N (show c 1 t < c 0 0 + 1 by omega) (Nat.zero_le _)]
        · rw [(t2 p hp).2, pz_N (show p < c 0 0 + 1 by omega) (Nat.zero_le _)]
    · intro a r ⟨_, p1, p2, p3⟩
      show wq (fX13_enter_i94 fu q (sI d) (sI e) (sL now) r (sI 42) a L) _
      unfold fX13_enter_i94
      rw [if_pos (by decide)]
      refine last a (fun s u1 u2 => ?_) p3
      have hpp := (Tr_pa hT u2).1
      have hde := (Tr_pa hT hpp).2.2.2.2
      have hpz : pz c 42 0 (c 1 s) = true := by
        unfold pz
        rw [decide_eq_true (show c 3 (c 1 s) < 42 by omega)]
        rfl
      rw [p1 s u1 u2, hpz, if_pos rfl]
    · rw [(o1 t u2).1]
      by_cases hpz : pz c (c 3 d) 0 (c 1 t) = true
      · rw [if_pos hpz]
        have hcn : cnD c d g (c 1 t) = false := by
          by_cases hx : cnD c d g (c 1 t) = true
          · have h1 := cn_de hT (Tr_pa hT u2).1 hx
            unfold pz at hpz
            rw [decide_eq_false (show ¬ c 3 (c 1 t) < c 3 d by omega), decide_eq_false (show ¬ c 1 t < 0 by omega)] at hpz
            simp at hpz
          · simpa using hx
        have := no_cm hT hG hcn u1 u2 rfl
        rw [this.1, this.2]
      · rw [if_neg hpz]
    · rw [(o1 p hp).2.2]
      have : (pz c (c 3 d) 0 p && cnD c d g p) = false := by
        by_cases hx : cnD c d g p = true
        · have h1 := cn_de hT hp hx
          unfold pz
          rw [decide_eq_false (show ¬ c 3 p < c 3 d by omega), decide_eq_false (show ¬ p < 0 by omega)]
          simp
        · simp only [Bool.not_eq_true] at hx
          rw [hx]; simp
      rw [this, if_neg (by decide)]
  -- the aims
  have aims : ∀ B : mwM, GrM B q (c 0 0) (fun _ _ => false) → (∀ a y, ¬ (q + 27 ≤ a ∧ a ≤ q + 29) → B a y = M a y) → wq (fX13_enter_h45 fu q (sI d) (sI e) (sL now) fu (1, B, L)) Q := by
    intro B o1 o2
    by_cases he0 : e = 0
    · obtain ⟨f, hfu⟩ : ∃ f, fu = f + 1 := ⟨fu - 1, by omega⟩
      rw [if_pos he0] at hgg
      have hfin := fills B (by rw [hgg]; exact o1) o2
      have : wq (fX13_enter_h45 fu q (sI d) (sI e) (sL now) (f + 1) (1, B, L)) Q := by
        unfold fX13_enter_h45
        rw [mloop_S]
        show wq (fX13_enter_i45 fu q (sI d) (sI e) (sL now) _ 1 B L) Q
        unfold fX13_enter_i45
        exact wq_if (fun _ => hfin) (fun _ => by rw [if_pos (by rw [he0]; decide)]; exact hfin)
      rw [← hfu] at this
      exact this
    · have he1 : 1 ≤ e := by omega
      rw [if_neg he0] at hgg
      refine wq_for (body := fun r z => fX13_enter_i45 fu q (sI d) (sI e) (sL now) r z.1 z.2.1 z.2.2) (fun i (a : mwM) => (sI i, a, L)) (fun i a => 1 ≤ i ∧ GrM a q (c 0 0) (aiN c e d (i - 1)) ∧ ∀ a' y, ¬ (q + 27 ≤ a' ∧ a' ≤ q + 29) → a a' y = M a' y) (c 0 1 + 1) ?_ ?_ (c 0 1) 1 B fu (by omega) (by omega) ⟨Nat.le_refl _, o1, o2⟩
      · intro i a r hi ⟨hi1, p1, p2⟩ ih
        obtain ⟨n, rfl⟩ : ∃ n, i = n + 1 := ⟨i - 1, by omega⟩
        rw [Nat.add_sub_cancel] at p1
        simp only [show n + 1 + 1 - 1 = n + 1 from rfl] at ih
        show wq (fX13_enter_i45 fu q (sI d) (sI e) (sL now) r (sI (n + 1)) a L) _
        have aM : TrM a q (c 0 0) (c 1) (c 2) (c 3) := TrM_f hM (p2 _ _ (by omega)) (fun d s u1 u2 => p2 _ _ (by omega))
        have aE : EdM a q (c 0 1) (c 4) (c 5) (c 6) (c 7) := ⟨(p2 _ _ (by omega)).trans hEM.1, fun j u1 u2 => by simp (disch := omega) only [p2]; exact hEM.2 j u1 u2⟩
        obtain ⟨n1, n2, n3, n4, _⟩ := hE.2 (n + 1) (by omega) (by omega)
        have e11 := (aE.2 (n + 1) (by omega) (by omega)).2.1
        have es := m_sT (fu := fu) (L := L) hT aM hE aE he1 he (show 1 ≤ n + 1 by omega) (show n + 1 ≤ c 0 1 by omega)
        have eai : aiN c e d (n + 1) = if sT (c 2) (c 4) (c 5) e (n + 1) = true then aiF c d (aiN c e d n) (c 5 (n + 1)) else aiN c e d n := rfl
        unfold fX13_enter_i45 fX13_enter_b80
        simp (disch := omega) only [aE.1, es, e11, mck_s, sI_nn, nn_s, sI_lt, sI_le, sI_eq, sI_ltl, sI_lel, sI_eql, sI_llt, sI_lle, sI_1, bI_0, bI_1, bI_n, mlet, mb3_s, mb2_s]
        rw [if_neg (by omega), if_neg (by omega)]
        cases hs : sT (c 2) (c 4) (c 5) e (n + 1) with
        | false =>
          rw [if_pos rfl]
          rw [hs, if_neg (by decide)] at eai
          refine ih a ⟨by omega, ?_, p2⟩
          rw [eai]; exact p1
        | true =>
          rw [if_neg (by decide)]
          rw [hs, if_pos rfl] at eai
          refine wq_b2 (m_aim (by omega) hT aM p1 n3 n4 hdl (tg_in (by omega) (by omega) hs (hdg he1) hv)) ?_
          rintro M1 L1 ⟨y1, y2, y3⟩
          dsimp only at y1 y2 y3
          subst y1
          refine ih M1 ⟨by omega, ?_, fun a' y u => (y3 a' y u).trans (p2 a' y u)⟩
          rw [eai]; exact y2
      · intro a r ⟨_, p1, p2⟩
        show wq (fX13_enter_i45 fu q (sI d) (sI e) (sL now) r (sI (c 0 1 + 1)) a L) _
        rw [Nat.add_sub_cancel] at p1
        unfold fX13_enter_i45
        rw [p2 _ _ (by omega), hEM.1, if_pos (by rw [sI_lt (by omega) (by omega)]; omega)]
        exact fills a (by rw [hgg]; exact p1) p2
  unfold DX13_enter
  refine wq_for (body := fun r z => fX13_enter_i3 fu q (sI d) (sI e) (sL now) r z.1 z.2.1 z.2.2) (fun i (a : mwM) => (sI i, a, L)) (fun i a => (∀ s, s < i → a (q + 27) s = bI false ∧ a (q + 28) s = bI false ∧ a (q + 29) s = bI false) ∧ ∀ a' y, ¬ (q + 27 ≤ a' ∧ a' ≤ q + 29) → a a' y = M a' y) (c 0 0 + 1) ?_ ?_ (c 0 0 + 1) 0 M fu (by omega) (by omega) ⟨fun s hs => by omega, fun _ _ _ => rfl⟩
  · intro i a r hi ⟨p1, p2⟩ ih
    show wq (fX13_enter_i3 fu q (sI d) (sI e) (sL now) r (sI i) a L) _
    have e2 : a q 2 = sI (c 0 0) := (p2 _ _ (by omega)).trans hM.1
    unfold fX13_enter_i3
    simp (disch := omega) only [e2, b0, mck_s, sI_nn, nn_s, sI_lt, sI_le, sI_eq, sI_ltl, sI_lel, sI_eql, sI_llt, sI_lle, sI_1, bI_0, bI_1, bI_n, mlet, mb3_s, mb2_s]
    rw [if_neg (by omega)]
    refine ih _ ⟨fun s hs => ?_, fun a' y u => by simp (disch := omega) only [mset_n]; exact p2 a' y u⟩
    by_cases hq : s = i
    · subst hq
      simp (disch := omega) only [mset_n, mset_s, and_true, true_and]
    · simp (disch := omega) only [mset_n]
      exact p1 s (by omega)
  · intro a r ⟨p1, p2⟩
    show wq (fX13_enter_i3 fu q (sI d) (sI e) (sL now) r (sI (c 0 0 + 1)) a L) _
    have e2 : a q 2 = sI (c 0 0) := (p2 _ _ (by omega)).trans hM.1
    unfold fX13_enter_i3
    rw [e2, if_pos (by rw [sI_lt (by omega) (by omega)]; omega)]
    exact aims a (fun s hs => p1 s (by omega)) p2
/-! what holds of the active states -/
def Cf1 (c : Nat → Nat → Nat) (b : Nat → Nat → Bool) : Prop := ∀ s, 1 ≤ s → s ≤ c 0 0 → b 0 s = true → c 2 s ≤ 1 ∧ (c 1 s = 0 ∨ b 0 (c 1 s) = true)
def Cf2 (c : Nat → Nat → Nat) (b : Nat → Nat → Bool) : Prop := ∀ s t, 1 ≤ s → s ≤ c 0 0 → 1 ≤ t → t ≤ c 0 0 → b 0 s = true → b 0 t = true → c 1 s = c 1 t → c 2 (c 1 s) = 0 → s = t
def Cf3 (c : Nat → Nat → Nat) (b : Nat → Nat → Bool) (p : Nat) : Prop := (p = 0 ∨ b 0 p = true) → c 2 p = 0 → dfl c p ≠ 0 → ∃ s, 1 ≤ s ∧ s ≤ c 0 0 ∧ b 0 s = true ∧ c 1 s = p
def Cfg (c : Nat → Nat → Nat) (b : Nat → Nat → Bool) : Prop := Cf1 c b ∧ Cf2 c b ∧ (∀ p, p ≤ c 0 0 → Cf3 c b p) ∧ HiV c
def CfD (c : Nat → Nat → Nat) (b : Nat → Nat → Bool) (d : Nat) : Prop := Cf1 c b ∧ Cf2 c b ∧ (∀ p, p ≤ c 0 0 → p ≠ d → insB (c 1) (c 3) d p = false → Cf3 c b p) ∧ HiV c
theorem Cfg_D {c : Nat → Nat → Nat} {b : Nat → Nat → Bool} {d : Nat} (h : Cfg c b) : CfD c b d := ⟨h.1, h.2.1, fun p hp _ _ => h.2.2.1 p hp, h.2.2.2⟩
def lvC (c : Nat → Nat → Nat) (b : Nat → Nat → Bool) (d : Nat) : Nat → Nat → Nat := fun i j => if i = 13 ∧ exB (c 1) (c 3) (b 0) d j = true ∧ c 2 j = 0 then chF (c 1) (c 2) (c 0 0) (b 0) j else c i j
def lvB (c : Nat → Nat → Nat) (b : Nat → Nat → Bool) (d : Nat) : Nat → Nat → Bool := fun r s => if r = 0 then b 0 s && !insB (c 1) (c 3) d s else b r s
theorem lvC_r {c : Nat → Nat → Nat} {b : Nat → Nat → Bool} {d i : Nat} (h : i ≠ 13) : lvC c b d i = c i := by
  funext j
  unfold lvC
  rw [if_neg (fun z => h z.1)]
theorem ch_act {c : Nat → Nat → Nat} {o : Nat → Bool} {p : Nat} (h : chF (c 1) (c 2) (c 0 0) o p ≠ 0) : 1 ≤ chF (c 1) (c 2) (c 0 0) o p ∧ chF (c 1) (c 2) (c 0 0) o p ≤ c 0 0 ∧ c 1 (chF (c 1) (c 2) (c 0 0) o p) = p ∧ c 2 (chF (c 1) (c 2) (c 0 0) o p) ≤ 1 ∧ o (chF (c 1) (c 2) (c 0 0) o p) = true := by
  have hz := fst_p (p := chP (c 1) (c 2) o p) _ _ (by omega) h
  have h1 := hz.1
  unfold chP at h1
  simp only [Bool.and_eq_true, decide_eq_true_eq] at h1
  exact ⟨hz.2.1, by have := hz.2.2; unfold chF; omega, h1.1.1, h1.1.2, h1.2⟩
theorem ch_none {c : Nat → Nat → Nat} {o : Nat → Bool} {p t : Nat} (h : chF (c 1) (c 2) (c 0 0) o p = 0) (t1 : 1 ≤ t) (t2 : t ≤ c 0 0) (ht : c 1 t = p) (hk : c 2 t ≤ 1) : o t = false := by
  have := fst_n (p := chP (c 1) (c 2) o p) _ _ (by omega) h t t1 (by omega)
  unfold chP at this
  rw [decide_eq_true ht, decide_eq_true hk] at this
  simpa using this
theorem df_ne {c : Nat → Nat → Nat} {p t : Nat} (t1 : 1 ≤ t) (t2 : t ≤ c 0 0) (ht : c 1 t = p) (hk : c 2 t ≤ 1) : dfl c p ≠ 0 := by
  intro z
  have := ch_none (o := fun _ => true) z t1 t2 ht hk
  cases this
theorem pk_ne {c : Nat → Nat → Nat} {g : Nat → Nat → Bool} {p : Nat} {w : Bool} (h : dfl c p ≠ 0) : pkf c g p w ≠ 0 := by
  unfold pkf
  split
  · assumption
  · split
    · rename_i h2; exact h2.2
    · exact h
/-- one that is gone through and has children that may be entered, has one that is -/
theorem cm_child {c : Nat → Nat → Nat} {d p : Nat} {g : Nat → Nat → Bool} (hT : Tr (c 0 0) (c 1) (c 2) (c 3)) (hG : GoA c d g) (hH : HiV c) (hp : cnD c d g p = true) (hpl : p ≤ c 0 0) (hk : c 2 p = 0) (hdf : dfl c p ≠ 0) : ∃ t, 1 ≤ t ∧ t ≤ c 0 0 ∧ c 1 t = p ∧ cmB c d g t = true := by
  have hne := pk_ne (g := g) (w := dqB c d g p) hdf
  have hpk : ∀ t, t = pkf c g p (dqB c d g p) → 1 ≤ t ∧ t ≤ c 0 0 ∧ c 1 t = p ∧ c 2 t ≤ 1 := by
    intro t ht
    unfold pkf at ht
    by_cases he : enc c (g 0) p ≠ 0
    · rw [if_pos he] at ht
      have hz := fst_p _ _ (by omega) he
      have hz1 := hz.1
      simp only [Bool.and_eq_true, decide_eq_true_eq] at hz1
      have hg0 : g 0 (enc c (g 0) p) = true := hz1.2
      have := hG _ hg0
      rw [ht]
      exact ⟨this.1, this.2.1, hz1.1, this.2.2.1⟩
    · rw [if_neg he] at ht
      by_cases hc : (g 1 p || dqB c d g p) = true ∧ c 13 p ≠ 0
      · rw [if_pos hc] at ht
        rcases hH p hpl with v | v
        · exact absurd v hc.2
        · rw [ht]; exact v
      · rw [if_neg hc] at ht
        rw [ht]; exact df_p hdf
  obtain ⟨u1, u2, u3, u4⟩ := hpk _ rfl
  refine ⟨_, u1, u2, u3, ?_⟩
  rw [cm_S hT u1 u2, u3, hp, decide_eq_true u4, decide_eq_true rfl]
  simp
section CFG
variable {c : Nat → Nat → Nat} {b : Nat → Nat → Bool} {d : Nat}
theorem cf_hz (h : Cfg c b) : ∀ s, 1 ≤ s → s ≤ c 0 0 → b 0 s = true → c 2 s = 0 → chF (c 1) (c 2) (c 0 0) (b 0) s = 0 → c 13 s = 0 := by
  intro s h1 h2 h3 h4 h5
  rcases h.2.2.2 s h2 with v | v
  · exact v
  · exfalso
    obtain ⟨t, t1, t2, t3, t4⟩ := h.2.2.1 s h2 (Or.inr h3) h4 (df_ne v.1 v.2.1 v.2.2.1 v.2.2.2)
    have := ch_none h5 t1 t2 t4 (h.1 t t1 t2 t3).1
    rw [t3] at this
    cases this
theorem lv_HiV (hT : Tr (c 0 0) (c 1) (c 2) (c 3)) (hH : HiV c) : HiV (lvC c b d) := by
  intro s hs
  rw [lvC_r (i := 0) (by omega)] at hs ⊢
  rw [lvC_r (i := 1) (by omega), lvC_r (i := 2) (by omega)]
  by_cases hq : exB (c 1) (c 3) (b 0) d s = true ∧ c 2 s = 0
  · have e : lvC c b d 13 s = chF (c 1) (c 2) (c 0 0) (b 0) s := by
      unfold lvC
      rw [if_pos ⟨rfl, hq⟩]
    rw [e]
    by_cases hz : chF (c 1) (c 2) (c 0 0) (b 0) s = 0
    · exact Or.inl hz
    · have := ch_act hz
      exact Or.inr ⟨this.1, this.2.1, this.2.2.1, this.2.2.2.1⟩
  · have e : lvC c b d 13 s = c 13 s := by
      unfold lvC
      rw [if_neg (fun z => hq z.2)]
    rw [e]
    exact hH s hs
theorem ins_par (hT : Tr (c 0 0) (c 1) (c 2) (c 3)) {t : Nat} (t1 : 1 ≤ t) (t2 : t ≤ c 0 0) : insB (c 1) (c 3) d t = (decide (c 1 t = d) || insB (c 1) (c 3) d (c 1 t)) := ins_S hT t1 t2
/-- behind a step: the active states, and the children -/
theorem cf_step {c2 : Nat → Nat → Nat} {g : Nat → Nat → Bool} {now : Nat} (hT : Tr (c 0 0) (c 1) (c 2) (c 3)) (h : CfD c b d) (hdl : d ≤ c 0 0) (hk : c 2 d = 0) (hd : d = 0 ∨ b 0 d = true) (hc2 : c2 = lvC c b d) (hG : GoA c2 d g) : Cfg (ent c2 (cmB c2 d g) now) (enb (lvB c b d) (cmB c2 d g)) ∧ ∀ s, s ≤ c 0 0 → chE c2 (cmB c2 d g) (fun s => if exB (c 1) (c 3) (b 0) d s = true then 0 else chK c b s) s = chK (ent c2 (cmB c2 d g) now) (enb (lvB c b d) (cmB c2 d g)) s := by
  obtain ⟨I1, I2, I3, IH⟩ := h
  have s0 : c2 0 = c 0 := by rw [hc2]; exact lvC_r (by omega)
  have s1 : c2 1 = c 1 := by rw [hc2]; exact lvC_r (by omega)
  have s2 : c2 2 = c 2 := by rw [hc2]; exact lvC_r (by omega)
  have s3 : c2 3 = c 3 := by rw [hc2]; exact lvC_r (by omega)
  have hT2 : Tr (c2 0 0) (c2 1) (c2 2) (c2 3) := by rw [s0, s1, s2, s3]; exact hT
  have hH2 : HiV c2 := by rw [hc2]; exact lv_HiV hT IH
  have ec : ∀ i, i ≠ 14 → ent c2 (cmB c2 d g) now i = c2 i := by
    intro i hi
    funext j
    unfold ent
    rw [if_neg (fun z => hi z.1)]
  have eb : ∀ s, enb (lvB c b d) (cmB c2 d g) 0 s = ((b 0 s && !insB (c 1) (c 3) d s) || cmB c2 d g s) := by
    intro s
    unfold enb lvB
    rw [if_pos rfl, if_pos rfl]
  have df2 : ∀ p, dfl c2 p = dfl c p := by
    intro p
    unfold dfl
    rw [s0, s1, s2]
  have cin : ∀ s, s ≤ c 0 0 → cmB c2 d g s = true → 1 ≤ s ∧ insB (c 1) (c 3) d s = true ∧ c 2 s ≤ 1 := by
    intro s hs hc
    have := cm_in hT2 s (by rw [s0]; exact hs) hc
    rw [s1, s2, s3] at this
    exact this
  have insd : insB (c 1) (c 3) d d = false := by
    by_cases hx : insB (c 1) (c 3) d d = true
    · have := ins_lt hT d hdl hx
      omega
    · simpa using hx
  have cns : ∀ s, 1 ≤ s → s ≤ c 0 0 → cmB c2 d g s = true → cnD c2 d g (c 1 s) = true := by
    intro s u1 u2 hc
    rw [cm_S hT2 u1 (by rw [s0]; exact u2), s1] at hc
    simp only [Bool.and_eq_true] at hc
    exact hc.1
  have actd : d ≠ 0 → enb (lvB c b d) (cmB c2 d g) 0 d = true := by
    intro hne
    rw [eb, insd]
    rcases hd with v | v
    · exact absurd v hne
    · rw [v]; rfl
  have kid : ∀ p, p ≤ c 0 0 → cnD c2 d g p = true → c 2 p = 0 → dfl c p ≠ 0 → ∃ t, 1 ≤ t ∧ t ≤ c 0 0 ∧ c 1 t = p ∧ cmB c2 d g t = true := by
    intro p hp u1 u2 u3
    have := cm_child hT2 hG hH2 u1 (by rw [s0]; exact hp) (by rw [s2]; exact u2) (by rw [df2]; exact u3)
    rw [s0, s1] at this
    exact this
  refine ⟨⟨?_, ?_, ?_, ?_⟩, ?_⟩
  · -- parents are active
    intro s u1 u2 u3
    rw [ec 0 (by omega), s0] at u2
    rw [ec 1 (by omega), ec 2 (by omega), s1, s2]
    rw [eb, Bool.or_eq_true] at u3
    rcases u3 with v | v
    · rw [Bool.and_eq_true, Bool.not_eq_true'] at v
      have w := I1 s u1 u2 v.1
      refine ⟨w.1, ?_⟩
      rcases w.2 with z | z
      · exact Or.inl z
      · right
        have hi := v.2
        rw [ins_par hT u1 u2, Bool.or_eq_false_iff] at hi
        rw [eb, z, hi.2]
        rfl
    · have w := cin s u2 v
      refine ⟨w.2.2, ?_⟩
      have hcn := cns s u1 u2 v
      unfold cnD at hcn
      by_cases hq : c 1 s = d
      · rw [hq]
        by_cases hd0 : d = 0
        · exact Or.inl hd0
        · exact Or.inr (actd hd0)
      · rw [if_neg hq] at hcn
        right
        rw [eb, hcn]
        simp
  · -- one child alone
    intro s t u1 u2 v1 v2 a1 a2 hp hk0
    rw [ec 0 (by omega), s0] at u2 v2
    rw [ec 1 (by omega), s1] at hp
    rw [ec 1 (by omega), ec 2 (by omega), s1, s2] at hk0
    rw [eb, Bool.or_eq_true] at a1 a2
    rcases a1 with a1 | a1
    · rw [Bool.and_eq_true, Bool.not_eq_true'] at a1
      rcases a2 with a2 | a2
      · rw [Bool.and_eq_true] at a2
        exact I2 s t u1 u2 v1 v2 a1.1 a2.1 hp hk0
      · exfalso
        have w := (cin t v2 a2).2.1
        rw [ins_par hT v1 v2, ← hp, ← ins_par hT u1 u2, a1.2] at w
        cases w
    · rcases a2 with a2 | a2
      · exfalso
        rw [Bool.and_eq_true, Bool.not_eq_true'] at a2
        have w := (cin s u2 a1).2.1
        rw [ins_par hT u1 u2, hp, ← ins_par hT v1 v2, a2.2] at w
        cases w
      · refine cm_uniq hT2 (by rw [s0]; exact u2) (by rw [s0]; exact v2) a1 a2 (by rw [s1]; exact hp) (by rw [s1, s2]; exact hk0)
  · -- one child at least
    intro p hp u1 u2 u3
    rw [ec 0 (by omega), s0] at hp
    rw [ec 2 (by omega), s2] at u2
    have u3' : dfl c p ≠ 0 := by
      have e : dfl (ent c2 (cmB c2 d g) now) p = dfl c p := by
        rw [← df2]
        unfold dfl
        rw [ec 0 (by omega), ec 1 (by omega), ec 2 (by omega)]
      rw [e] at u3
      exact u3
    rw [ec 0 (by omega), ec 1 (by omega), s0, s1]
    have byc : cnD c2 d g p = true → ∃ s, 1 ≤ s ∧ s ≤ c 0 0 ∧ enb (lvB c b d) (cmB c2 d g) 0 s = true ∧ c 1 s = p := by
      intro hcn
      obtain ⟨t, t1, t2, t3, t4⟩ := kid p hp hcn u2 u3'
      exact ⟨t, t1, t2, by rw [eb, t4]; simp, t3⟩
    by_cases hq : p = d
    · exact byc (by unfold cnD; rw [if_pos hq])
    · cases hi : insB (c 1) (c 3) d p with
      | true =>
        refine byc ?_
        unfold cnD
        rw [if_neg hq]
        rcases u1 with v | v
        · rw [v, ins_0 hT] at hi; cases hi
        · rw [eb, hi] at v
          simpa using v
      | false =>
        have hact : p = 0 ∨ b 0 p = true := by
          rcases u1 with v | v
          · exact Or.inl v
          · rw [eb, hi, Bool.or_eq_true] at v
            rcases v with w | w
            · right; simpa using w
            · rw [(cin p hp w).2.1] at hi; cases hi
        obtain ⟨t, t1, t2, t3, t4⟩ := I3 p hp hq hi hact u2 u3'
        refine ⟨t, t1, t2, ?_, t4⟩
        have hit : insB (c 1) (c 3) d t = false := by
          rw [ins_par hT t1 t2, t4, hi, decide_eq_false hq]
          rfl
        rw [eb, t3, hit]
        rfl
  · intro s hs
    rw [ec 0 (by omega)] at hs
    rw [ec 0 (by omega), ec 1 (by omega), ec 2 (by omega), ec 13 (by omega)]
    exact hH2 s hs
  · -- the children in the row
    intro p hp
    have eK : chK (ent c2 (cmB c2 d g) now) (enb (lvB c b d) (cmB c2 d g)) p = if c 2 p = 0 ∧ (p = 0 ∨ enb (lvB c b d) (cmB c2 d g) 0 p = true) then chF (c 1) (c 2) (c 0 0) (enb (lvB c b d) (cmB c2 d g) 0) p else 0 := by
      unfold chK
      rw [ec 0 (by omega), ec 1 (by omega), ec 2 (by omega), s0, s1, s2]
    have eE : chE c2 (cmB c2 d g) (fun s => if exB (c 1) (c 3) (b 0) d s = true then 0 else chK c b s) p = if c 2 p = 0 ∧ fstN (fun t => decide (c 1 t = p) && cmB c2 d g t) (c 0 0) 1 ≠ 0 then fstN (fun t => decide (c 1 t = p) && cmB c2 d g t) (c 0 0) 1 else (if exB (c 1) (c 3) (b 0) d p = true then 0 else chK c b p) := by
      unfold chE
      rw [s0, s1, s2]
    rw [eK, eE]
    by_cases hkn : c 2 p ≠ 0
    · simp [hkn, chK]
    have hk0 : c 2 p = 0 := by omega
    -- children of what lies inside, or of the domain, are what comes
    have inner : (p = d ∨ insB (c 1) (c 3) d p = true) → chF (c 1) (c 2) (c 0 0) (enb (lvB c b d) (cmB c2 d g) 0) p = fstN (fun t => decide (c 1 t = p) && cmB c2 d g t) (c 0 0) 1 := by
      intro hpd
      unfold chF
      refine fst_congr _ _ (fun t t1 t2 => ?_)
      unfold chP
      by_cases htp : c 1 t = p
      · have hit : insB (c 1) (c 3) d t = true := by
          rw [ins_par hT t1 (by omega), htp]
          rcases hpd with v | v
          · rw [decide_eq_true v]; rfl
          · rw [v]; simp
        rw [eb, hit, decide_eq_true htp]
        cases hc : cmB c2 d g t with
        | false => simp
        | true =>
          rw [decide_eq_true (cin t (by omega) hc).2.2]
          simp
      · rw [decide_eq_false htp]
        simp
    by_cases hq : p = d
    · have hact : p = 0 ∨ enb (lvB c b d) (cmB c2 d g) 0 p = true := by
        by_cases hd0 : d = 0
        · exact Or.inl (by omega)
        · right; rw [hq]; exact actd hd0
      rw [if_pos (show c 2 p = 0 ∧ (p = 0 ∨ enb (lvB c b d) (cmB c2 d g) 0 p = true) from ⟨hk0, hact⟩), inner (Or.inl hq)]
      by_cases hf : fstN (fun t => decide (c 1 t = p) && cmB c2 d g t) (c 0 0) 1 = 0
      · rw [if_neg (show ¬ (c 2 p = 0 ∧ fstN (fun t => decide (c 1 t = p) && cmB c2 d g t) (c 0 0) 1 ≠ 0) from fun z => z.2 hf), hf]
        have hdf0 : dfl c p = 0 := by
          by_cases hx : dfl c p = 0
          · exact hx
          · exfalso
            obtain ⟨t, t1, t2, t3, t4⟩ := kid p hp (by unfold cnD; rw [if_pos hq]) hk0 hx
            have := fst_n _ _ (by omega) hf t t1 (by omega)
            rw [t4, decide_eq_true t3] at this
            cases this
        split
        · rfl
        · unfold chK
          split
          · by_cases hz : chF (c 1) (c 2) (c 0 0) (b 0) p = 0
            · exact hz
            · exfalso
              have := ch_act hz
              exact df_ne this.1 this.2.1 this.2.2.1 this.2.2.2.1 hdf0
          · rfl
      · rw [if_pos (show c 2 p = 0 ∧ fstN (fun t => decide (c 1 t = p) && cmB c2 d g t) (c 0 0) 1 ≠ 0 from ⟨hk0, hf⟩)]
    · cases hi : insB (c 1) (c 3) d p with
      | true =>
        have hp0 : p ≠ 0 := by
          intro z
          rw [z, ins_0 hT] at hi; cases hi
        have hp1 : 1 ≤ p := by omega
        have old : (if exB (c 1) (c 3) (b 0) d p = true then 0 else chK c b p) = 0 := by
          split
          · rfl
          · rename_i hx
            unfold exB at hx
            rw [hi, Bool.and_true] at hx
            unfold chK
            rw [if_neg (by
              rintro ⟨_, w | w⟩
              · exact hp0 w
              · exact hx w)]
        rw [old]
        have hact : enb (lvB c b d) (cmB c2 d g) 0 p = cmB c2 d g p := by
          rw [eb, hi]
          simp
        cases hc : cmB c2 d g p with
        | true =>
          rw [if_pos (show c 2 p = 0 ∧ (p = 0 ∨ enb (lvB c b d) (cmB c2 d g) 0 p = true) from ⟨hk0, Or.inr (by rw [hact]; exact hc)⟩), inner (Or.inr hi)]
          by_cases hf : fstN (fun t => decide (c 1 t = p) && cmB c2 d g t) (c 0 0) 1 = 0
          · rw [if_neg (show ¬ (c 2 p = 0 ∧ fstN (fun t => decide (c 1 t = p) && cmB c2 d g t) (c 0 0) 1 ≠ 0) from fun z => z.2 hf), hf]
          · rw [if_pos (show c 2 p = 0 ∧ fstN (fun t => decide (c 1 t = p) && cmB c2 d g t) (c 0 0) 1 ≠ 0 from ⟨hk0, hf⟩)]
        | false =>
          rw [if_neg (show ¬ (c 2 p = 0 ∧ (p = 0 ∨ enb (lvB c b d) (cmB c2 d g) 0 p = true)) by
            rintro ⟨_, w | w⟩
            · exact hp0 w
            · rw [hact, hc] at w; cases w)]
          rw [if_neg]
          rintro ⟨_, hf⟩
          have hz := fst_p _ _ (by omega) hf
          have hz1 := hz.1
          simp only [Bool.and_eq_true, decide_eq_true_eq] at hz1
          have hcn := cns _ hz.2.1 (by have := hz.2.2; omega) hz1.2
          rw [hz1.1] at hcn
          unfold cnD at hcn
          rw [if_neg hq, hc] at hcn
          cases hcn
      | false =>
        have hnc : cmB c2 d g p = false := by
          by_cases hx : cmB c2 d g p = true
          · rw [(cin p hp hx).2.1] at hi; cases hi
          · simpa using hx
        have hact : enb (lvB c b d) (cmB c2 d g) 0 p = b 0 p := by
          rw [eb, hi, hnc]
          simp
        have hkids : ∀ t, 1 ≤ t → t ≤ c 0 0 → c 1 t = p → insB (c 1) (c 3) d t = false ∧ cmB c2 d g t = false := by
          intro t t1 t2 t3
          have hit : insB (c 1) (c 3) d t = false := by
            rw [ins_par hT t1 t2, t3, hi, decide_eq_false hq]
            rfl
          refine ⟨hit, ?_⟩
          by_cases hx : cmB c2 d g t = true
          · rw [(cin t t2 hx).2.1] at hit; cases hit
          · simpa using hx
        have hf : fstN (fun t => decide (c 1 t = p) && cmB c2 d g t) (c 0 0) 1 = 0 := by
          refine fst_0 _ _ (fun t t1 t2 => ?_)
          by_cases htp : c 1 t = p
          · rw [(hkids t t1 (by omega) htp).2]; simp
          · rw [decide_eq_false htp]; rfl
        have hex : exB (c 1) (c 3) (b 0) d p = false := by
          unfold exB
          rw [hi]; simp
        rw [if_neg (show ¬ (c 2 p = 0 ∧ fstN (fun t => decide (c 1 t = p) && cmB c2 d g t) (c 0 0) 1 ≠ 0) from fun z => z.2 hf), hex, if_neg (by decide), hact]
        unfold chK
        by_cases hc : c 2 p = 0 ∧ (p = 0 ∨ b 0 p = true)
        · rw [if_pos hc, if_pos hc]
          unfold chF
          refine fst_congr _ _ (fun t t1 t2 => ?_)
          unfold chP
          by_cases htp : c 1 t = p
          · have := hkids t t1 (by omega) htp
            rw [eb, this.1, this.2]
            simp
          · rw [decide_eq_false htp]; rfl
        · rw [if_neg hc, if_neg hc]
end CFG
/-! the class leaves -/
theorem c_leaveAll {fu : Nat} {A : mwM} {L : mwL} {k d : Nat} {c : Nat → Nat → Nat} {b : Nat → Nat → Bool} {va : Nat → Int32} {D : Nat → Int64} {x : Nat → Int32} (hf : 601 ≤ fu) (hv : Cv c) (h : ReC k A L c b va D x) (hdl : d ≤ c 0 0) (hz : ∀ s, 1 ≤ s → s ≤ c 0 0 → b 0 s = true → c 2 s = 0 → chF (c 1) (c 2) (c 0 0) (b 0) s = 0 → c 13 s = 0) : wq (DX2_leaveAll fu k (sI d) A L) (fun z => ReX (fun s => if exB (c 1) (c 3) (b 0) d s = true then 0 else chK c b s) k z.1 z.2 (lvC c b d) (lvB c b d) va (alo (exB (c 1) (c 3) (b 0) d) (acD c va 1) (faL (c 3) (c 0 0) 41) D) x ∧ (∀ a y, ¬ (k + 7 ≤ a ∧ a ≤ k + 9) → a ≠ k + 16 → z.1 a y = A a y) ∧ ∀ a, a ≠ k + 34 → z.2 a = L a) := by
  have hT := hv.1
  have hN := hT.1
  obtain ⟨hC, hEC, hXC, hf4, h5, h6, h7, h8⟩ := h
  have hl := fa_len hT
  have hnd := fa_nd (de := c 3) (N := c 0 0) 41
  have hmm : ∀ s, 1 ≤ s → s ≤ c 0 0 → s ∈ faL (c 3) (c 0 0) 41 := fun s u1 u2 => (fa_mem 41).mpr ⟨u1, u2, by have := (hT.2.2.2.2 s u1 u2); omega⟩
  have hmr : ∀ s, s ∈ faL (c 3) (c 0 0) 41 → 1 ≤ s ∧ s ≤ c 0 0 := fun s hs => ⟨((fa_mem 41).mp hs).1, ((fa_mem 41).mp hs).2.1⟩
  have ckl : ∀ s, chK c b s ≤ c 0 0 := by
    intro s
    unfold chK
    split
    · exact ch_le
    · omega
  -- what is left behind
  have eC : ∀ s, 1 ≤ s → s ≤ c 0 0 → exB (c 1) (c 3) (b 0) d s = true → lvC c b d 13 s = if chK c b s = 0 then c 13 s else chK c b s := by
    intro s u1 u2 u3
    have hb : b 0 s = true := by
      unfold exB at u3
      rw [Bool.and_eq_true] at u3
      exact u3.1
    unfold lvC
    by_cases hk : c 2 s = 0
    · have e : chK c b s = chF (c 1) (c 2) (c 0 0) (b 0) s := by
        unfold chK
        rw [if_pos ⟨hk, Or.inr hb⟩]
      rw [if_pos ⟨rfl, u3, hk⟩, e]
      by_cases hq : chF (c 1) (c 2) (c 0 0) (b 0) s = 0
      · rw [if_pos hq, hq, hz s u1 u2 hb hk hq]
      · rw [if_neg hq]
    · have e : chK c b s = 0 := by
        unfold chK
        rw [if_neg (fun w => hk w.1)]
      rw [if_neg (fun w => hk w.2.2), e, if_pos rfl]
  have eC0 : ∀ s, exB (c 1) (c 3) (b 0) d s = false → lvC c b d 13 s = c 13 s := by
    intro s u
    unfold lvC
    rw [if_neg (fun w => by rw [u] at w; cases w.2.1)]
  have h19 := h7.2
  generalize hl0 : faL (c 3) (c 0 0) 41 = l0 at *
  unfold DX2_leaveAll
  refine wq_b2 (c_markInside (by omega) hT hC hdl) ?_
  rintro B L1 ⟨y1, y2, y3⟩
  dsimp only at y1 y2 y3
  subst y1
  refine wq_for (body := fun r z => fX2_leaveAll_i7 fu k (sI d) r z.1 z.2.1 z.2.2) (fun i (w : mwM × mwL) => (sI i, w.1, w.2)) (fun i w => 1 ≤ i ∧ (∀ s, s ≤ c 0 0 → (1 ≤ s → w.1 (k + 7) s = bI (b 0 s && !(exB (c 1) (c 3) (b 0) d s && decide (s ∈ l0.take (i - 1))))) ∧ w.1 (k + 8) s = sI (if (exB (c 1) (c 3) (b 0) d s && decide (s ∈ l0.take (i - 1))) = true then 0 else chK c b s) ∧ w.1 (k + 9) s = sI (if (exB (c 1) (c 3) (b 0) d s && decide (s ∈ l0.take (i - 1))) = true then lvC c b d 13 s else c 13 s)) ∧ w.2 (k + 34) = alo (exB (c 1) (c 3) (b 0) d) (acD c va 1) (l0.take (i - 1)) D ∧ (∀ a, a ≠ k + 34 → w.2 a = L1 a) ∧ ∀ a y, ¬ (k + 7 ≤ a ∧ a ≤ k + 9) → w.1 a y = B a y) (c 0 0 + 1) ?_ ?_ (c 0 0) 1 (B, L1) fu (by omega) (by omega) ⟨Nat.le_refl _, ?_, hf4.2.2.2.2.2, fun _ _ => rfl, fun _ _ _ => rfl⟩
  · rintro i ⟨a, l⟩ r hi ⟨hi1, q1, q3, q4, q5⟩ ih
    dsimp only at q1 q3 q4 q5
    obtain ⟨n, rfl⟩ : ∃ n, i = n + 1 := ⟨i - 1, by omega⟩
    rw [Nat.add_sub_cancel] at q1 q3
    show wq (fX2_leaveAll_i7 fu k (sI d) r (sI (n + 1)) a l) _
    have key := fun (X : mwM) (Y : mwL) => ih (X, Y)
    dsimp only at key
    simp only [show n + 1 + 1 - 1 = n + 1 from rfl] at key
    have hn : n < l0.length := by omega
    rw [tk_S hn] at key
    have hnin := tk_nd hn hnd
    have hget := List.getElem?_eq_getElem hn
    generalize hs : l0[n] = s at *
    have hsr := hmr s (by rw [← hs]; exact List.getElem_mem hn)
    generalize hpre : l0.take n = pre at *
    have e19 : a (k + 19) (n + 1) = sI s := by
      rw [q5 _ _ (by omega), y3 _ _ (by omega)]
      exact h19 n s hget
    have e16 : a (k + 16) s = bI (insB (c 1) (c 3) d s) := by rw [q5 _ _ (by omega)]; exact y2 s hsr.2
    have e7 : a k 7 = sI (c 0 0) := by rw [q5 _ _ (by omega), y3 _ _ (by omega)]; exact hC.1
    have dn : decide (s ∈ pre) = false := decide_eq_false hnin
    have qs := q1 s hsr.2
    rw [dn, Bool.and_false] at qs
    have eA : a (k + 7) s = bI (b 0 s) := by
      rw [qs.1 hsr.1]
      simp
    have eK : a (k + 8) s = sI (chK c b s) := by
      rw [qs.2.1, if_neg (by decide)]
    have eH : a (k + 9) s = sI (c 13 s) := by
      rw [qs.2.2, if_neg (by decide)]
    have hck := ckl s
    have eal : ∀ D0, alo (exB (c 1) (c 3) (b 0) d) (acD c va 1) (pre ++ [s]) D0 = if exB (c 1) (c 3) (b 0) d s = true then acD c va 1 s (alo (exB (c 1) (c 3) (b 0) d) (acD c va 1) pre D0) else alo (exB (c 1) (c 3) (b 0) d) (acD c va 1) pre D0 := fun D0 => by
      rw [alo_app]
      rfl
    have dmem : ∀ t, decide (t ∈ pre ++ [s]) = (decide (t ∈ pre) || decide (t = s)) := by
      intro t
      rw [Bool.eq_iff_iff]
      simp
    have skip : exB (c 1) (c 3) (b 0) d s = false → wq (r (sI (n + 1 + 1), a, l)) (fun z => ReX (fun s => if exB (c 1) (c 3) (b 0) d s = true then 0 else chK c b s) k z.1 z.2 (lvC c b d) (lvB c b d) va (alo (exB (c 1) (c 3) (b 0) d) (acD c va 1) l0 D) x ∧ (∀ a y, ¬ (k + 7 ≤ a ∧ a ≤ k + 9) → a ≠ k + 16 → z.1 a y = A a y) ∧ ∀ a, a ≠ k + 34 → z.2 a = L1 a) := by
      intro hx
      refine key a l ⟨by omega, fun t u2 => ?_, ?_, q4, q5⟩
      · have := q1 t u2
        rw [dmem]
        by_cases hts : t = s
        · rw [hts] at this ⊢
          rw [hx] at this ⊢
          exact this
        · rw [decide_eq_false hts, Bool.or_false]
          exact this
      · rw [eal, hx, if_neg (by decide)]
        exact q3
    unfold fX2_leaveAll_i7 fX2_leaveAll_b105
    simp (disch := omega) only [e7, e19, e16, eA, eK, mck_s, sI_nn, nn_s, sI_lt, sI_le, sI_eq, sI_ltl, sI_lel, sI_eql, sI_llt, sI_lle, sI_1, bI_0, bI_1, bI_n, mlet, mb3_s, mb2_s]
    rw [if_neg (by omega)]
    cases hi1 : insB (c 1) (c 3) d s with
    | false =>
      rw [if_neg (by decide)]
      exact skip (by unfold exB; rw [hi1]; simp)
    | true =>
      rw [if_pos rfl]
      cases hb1 : b 0 s with
      | false =>
        rw [if_neg (by decide)]
        exact skip (by unfold exB; rw [hb1]; rfl)
      | true =>
        rw [if_pos rfl]
        have hx : exB (c 1) (c 3) (b 0) d s = true := by unfold exB; rw [hi1, hb1]; rfl
        have b80 : ∀ G : mwM, (∀ a' y, ¬ (a' = k + 9 ∧ y = s) → G a' y = a a' y) → G (k + 9) s = sI (lvC c b d 13 s) → wq (fX2_leaveAll_b80 fu k (sI d) r (sI (n + 1)) (sI s) G l) (fun z => ReX (fun s => if exB (c 1) (c 3) (b 0) d s = true then 0 else chK c b s) k z.1 z.2 (lvC c b d) (lvB c b d) va (alo (exB (c 1) (c 3) (b 0) d) (acD c va 1) l0 D) x ∧ (∀ a y, ¬ (k + 7 ≤ a ∧ a ≤ k + 9) → a ≠ k + 16 → z.1 a y = A a y) ∧ ∀ a, a ≠ k + 34 → z.2 a = L1 a) := by
          intro G g1 g2
          unfold fX2_leaveAll_b80 fX2_leaveAll_b105
          simp (disch := omega) only [mck_s, sI_nn, nn_s, sI_lt, sI_le, sI_eq, sI_ltl, sI_lel, sI_eql, sI_llt, sI_lle, sI_1, bI_0, bI_1, bI_n, mlet, mb3_s, mb2_s]
          refine wq_b2 (c_doActs (w := 1) (o := s) (n := c 0 2) (ax := fun i => c (8 + i)) (va := va) (by omega) hv.2.2.1 ⟨?_, fun i hi => ?_⟩ (by omega) (by omega)) ?_
          · simp (disch := omega) only [mset_n, g1, q5, y3]; exact hXC.1
          · simp (disch := omega) only [mset_n, g1, q5, y3]; exact hXC.2 i hi
          rintro M1 L2 ⟨z1, z2, z3⟩
          dsimp only at z1 z2 z3
          subst z1
          refine key _ L2 ⟨by omega, fun t u2 => ?_, ?_, fun a' u => (z3 a' u).trans (q4 a' u), fun a' y u => ?_⟩
          · have := q1 t u2
            rw [dmem]
            by_cases hts : t = s
            · subst hts
              rw [hx, decide_eq_true rfl, Bool.or_true, Bool.and_true, if_pos rfl, if_pos rfl]
              simp (disch := omega) only [mset_n, mset_s, g2]
              refine ⟨fun _ => ?_, rfl, trivial⟩
              simp [bI]
            · rw [decide_eq_false hts, Bool.or_false]
              simp (disch := omega) only [mset_n, g1]
              exact this
          · rw [eal, hx, if_pos rfl, z2, q3]
            rfl
          · simp (disch := omega) only [mset_n, g1]; exact q5 a' y u
        by_cases hk0 : chK c b s = 0
        · rw [if_pos hk0]
          refine b80 a (fun _ _ _ => rfl) ?_
          rw [eC s hsr.1 hsr.2 hx, if_pos hk0]
          exact eH
        · rw [if_neg hk0]
          refine b80 _ (fun a' y u => mset_n u) ?_
          rw [eC s hsr.1 hsr.2 hx, if_neg hk0, mset_s]
  · rintro ⟨a, l⟩ r ⟨_, q1, q3, q4, q5⟩
    dsimp only at q1 q3 q4 q5
    rw [Nat.add_sub_cancel, List.take_of_length_le (show l0.length ≤ c 0 0 by omega)] at q1 q3
    show wq (fX2_leaveAll_i7 fu k (sI d) r (sI (c 0 0 + 1)) a l) _
    have fr : ∀ a' y, ¬ (k + 7 ≤ a' ∧ a' ≤ k + 9) → a' ≠ k + 16 → a a' y = A a' y := fun a' y u1 u2 => by rw [q5 _ _ u1, y3 _ _ u2]
    unfold fX2_leaveAll_i7
    rw [fr _ _ (by omega) (by omega), hC.1, if_pos (by rw [sI_lt (by omega) (by omega)]; omega)]
    refine wq_some ⟨?_, fr, q4⟩
    dsimp only
    have e3 : ∀ r, 1 ≤ r → lvB c b d r = b r := by
      intro r hr
      funext s
      unfold lvB
      rw [if_neg (by omega)]
    unfold ReX
    rw [lvC_r (i := 0) (by omega), lvC_r (i := 1) (by omega), lvC_r (i := 2) (by omega), lvC_r (i := 3) (by omega), lvC_r (i := 4) (by omega), lvC_r (i := 5) (by omega), lvC_r (i := 6) (by omega), lvC_r (i := 7) (by omega), lvC_r (i := 12) (by omega), lvC_r (i := 14) (by omega), e3 1 (by omega), e3 2 (by omega), e3 3 (by omega), e3 4 (by omega), e3 5 (by omega), e3 6 (by omega)]
    have pd : ∀ s, s ≤ c 0 0 → (exB (c 1) (c 3) (b 0) d s && decide (s ∈ l0)) = exB (c 1) (c 3) (b 0) d s := by
      intro s hs
      rcases Nat.eq_zero_or_pos s with w | w
      · have : exB (c 1) (c 3) (b 0) d s = false := by
          unfold exB
          rw [w, ins_0 hT]
          simp
        rw [this]; rfl
      · rw [decide_eq_true (hmm s w hs), Bool.and_true]
    refine ⟨TrC_f hC (fr _ _ (by omega) (by omega)) (fun a s u1 u2 => fr _ _ (by omega) (by omega)), ?_, ?_, ?_, ?_, ?_, ?_, ?_⟩
    · refine ⟨?_, fun e u1 u2 => ?_⟩
      · simp (disch := omega) only [fr]; exact hEC.1
      · simp (disch := omega) only [fr]; exact hEC.2 e u1 u2
    · refine ⟨?_, fun i hi => ?_⟩
      · simp (disch := omega) only [fr]; exact hXC.1
      · have := hXC.2 i hi
        dsimp only at this ⊢
        rw [lvC_r (by omega), lvC_r (by omega), lvC_r (by omega), lvC_r (by omega)]
        simp (disch := omega) only [fr]; exact this
    · rw [q3]
      simp (disch := omega) only [fr]
      exact ⟨hf4.1, hf4.2.1, hf4.2.2.1, hf4.2.2.2.1, hf4.2.2.2.2.1, trivial⟩
    · intro s hs
      have := h5 s hs
      have w := q1 s hs
      rw [pd s hs] at w
      rw [fr (k + 5) s (by omega) (by omega), fr (k + 6) s (by omega) (by omega)]
      refine ⟨this.1, this.2.1, w.2.1, ?_⟩
      rw [w.2.2]
      by_cases hx : exB (c 1) (c 3) (b 0) d s = true
      · rw [if_pos hx]
      · have hx' : exB (c 1) (c 3) (b 0) d s = false := by simpa using hx
        rw [if_neg hx, eC0 s hx']
    · intro s u1 hs
      have := h6 s u1 hs
      have w := (q1 s hs).1 u1
      rw [pd s hs] at w
      rw [fr (k + 10) s (by omega) (by omega), fr (k + 11) s (by omega) (by omega), fr (k + 17) s (by omega) (by omega)]
      refine ⟨?_, this.2⟩
      rw [w]
      unfold lvB exB
      rw [if_pos rfl]
      cases b 0 s <;> simp
    · refine ⟨fun i v hv => ?_, fun i v hv => ?_⟩
      · rw [fr _ _ (by omega) (by omega)]; exact h7.1 i v hv
      · rw [hl0] at hv
        rw [fr _ _ (by omega) (by omega)]; exact h19 i v hv
    · intro e u1 u2
      rw [fr _ _ (by omega) (by omega)]; exact h8 e u1 u2
  · intro s hs
    have := h5 s hs
    dsimp only
    rw [y3 _ _ (by omega), y3 _ _ (by omega), y3 _ _ (by omega)]
    simp only [show (1 : Nat) - 1 = 0 from rfl, List.take_zero, List.not_mem_nil, decide_false, Bool.and_false, Bool.not_false, Bool.and_true]
    rw [if_neg (by decide), if_neg (by decide)]
    exact ⟨fun u => (h6 s u hs).1, this.2.2.1, this.2.2.2⟩
/-! one edge is taken -/
def usB (b : Nat → Nat → Bool) (e : Nat) : Nat → Nat → Bool := fun r s => if r = 3 ∧ s = e then true else b r s
def tk2 (c : Nat → Nat → Nat) (b : Nat → Nat → Bool) (e : Nat) : Nat → Nat → Nat := lvC c (usB b e) (doE c e)
def tkg (c : Nat → Nat → Nat) (b : Nat → Nat → Bool) (e : Nat) : Nat → Nat → Bool := aiN (tk2 c b e) e (doE c e) (tk2 c b e 0 1)
def tkm (c : Nat → Nat → Nat) (b : Nat → Nat → Bool) (e : Nat) : Nat → Bool := cmB (tk2 c b e) (doE c e) (tkg c b e)
def tkC (c : Nat → Nat → Nat) (b : Nat → Nat → Bool) (e now : Nat) : Nat → Nat → Nat := ent (tk2 c b e) (tkm c b e) now
def tkB (c : Nat → Nat → Nat) (b : Nat → Nat → Bool) (e : Nat) : Nat → Nat → Bool := enb (lvB c (usB b e) (doE c e)) (tkm c b e)
def tkD (c : Nat → Nat → Nat) (b : Nat → Nat → Bool) (va : Nat → Int32) (e : Nat) (D : Nat → Int64) : Nat → Int64 := alo (tkm c b e) (acD (tk2 c b e) va 0) (riL (tk2 c b e 3) (tk2 c b e 0 0) 42) (acD (tk2 c b e) va 2 e (alo (exB (c 1) (c 3) (usB b e 0) (doE c e)) (acD c va 1) (faL (c 3) (c 0 0) 41) D))
theorem us_r {b : Nat → Nat → Bool} {e r : Nat} (h : r ≠ 3) : usB b e r = b r := by
  funext s
  unfold usB
  rw [if_neg (fun z => h z.1)]
theorem tk2_r {c : Nat → Nat → Nat} {b : Nat → Nat → Bool} {e i : Nat} (h : i ≠ 13) : tk2 c b e i = c i := lvC_r h
theorem doE_c {c c' : Nat → Nat → Nat} {e : Nat} (h : ∀ i, i ≤ 5 → c' i = c i) : doE c' e = doE c e := by
  unfold doE
  rw [h 0 (by omega), h 1 (by omega), h 2 (by omega), h 3 (by omega), h 4 (by omega), h 5 (by omega)]
theorem Cv_c {c c' : Nat → Nat → Nat} (h : ∀ i, i ≤ 12 → c' i = c i) (hv : Cv c) : Cv c' := by
  have e : (fun i => c' (8 + i)) 0 = c 8 ∧ (fun i => c' (8 + i)) 1 = c 9 ∧ (fun i => c' (8 + i)) 2 = c 10 ∧ (fun i => c' (8 + i)) 3 = c 11 := ⟨h _ (by omega), h _ (by omega), h _ (by omega), h _ (by omega)⟩
  unfold Cv
  rw [h 0 (by omega), h 1 (by omega), h 2 (by omega), h 3 (by omega), h 4 (by omega), h 5 (by omega), h 6 (by omega), h 7 (by omega), h 8 (by omega), h 9 (by omega), h 12 (by omega)]
  refine ⟨hv.1, hv.2.1, ⟨hv.2.2.1.1, fun i hi => ?_⟩, hv.2.2.2⟩
  rw [e.1, e.2.1, e.2.2.1, e.2.2.2]
  exact hv.2.2.1.2 i hi
theorem tk2_v {c : Nat → Nat → Nat} {b : Nat → Nat → Bool} {e : Nat} (hv : Cv c) : Cv (tk2 c b e) := Cv_c (fun i hi => tk2_r (by omega)) hv
theorem do_k0 {c : Nat → Nat → Nat} {e : Nat} (hv : Cv c) : c 2 (doE c e) = 0 := by
  rcases do_good hv (e := e) with q | q
  · rw [q]; exact hv.1.2.2.1
  · exact q.1
theorem m_take {fu : Nat} {M : mwM} {L : mwL} {q e now : Nat} {c : Nat → Nat → Nat} {b : Nat → Nat → Bool} {va : Nat → Int32} {D : Nat → Int64} {x : Nat → Int32} (hf : 601 ≤ fu) (hv : Cv c) (hH : HiV c) (h : ReM q M L c b va D x) (he1 : 1 ≤ e) (he : e ≤ c 0 1) : wq (DX13_take fu q (sI e) (sL now) M L) (fun z => ReM q z.1 z.2 (tkC c b e now) (tkB c b e) va (tkD c b va e D) x ∧ (∀ a y, ¬ (q ≤ a ∧ a ≤ q + 23) → ¬ (q + 25 ≤ a ∧ a ≤ q + 29) → z.1 a y = M a y) ∧ z.1 q 35 = M q 35 ∧ ∀ a, a ≠ q + 6 → a ≠ q + 21 → z.2 a = L a) := by
  have hT := hv.1
  have hE := hv.2.1
  have hN := hT.1
  have hE4 := hE.1
  have b0 : vp_nar .boolean (0 : Int32) = bI false := by decide
  have b1 : vp_nar .boolean (1 : Int32) = bI true := by decide
  obtain ⟨hM, hEM, hXM, hf4, h5, h6, h7, h8⟩ := h
  obtain ⟨rw0, hr0, hr1⟩ := hf4.2.2.2.2.2.2
  have hdl := doE_le (c := c) (e := e)
  have hdk := do_k0 hv (e := e)
  have hu0 : usB b e 0 = b 0 := us_r (by omega)
  generalize hQ : (fun z : mwM × mwL => ReM q z.1 z.2 (tkC c b e now) (tkB c b e) va (tkD c b va e D) x ∧ (∀ a y, ¬ (q ≤ a ∧ a ≤ q + 23) → ¬ (q + 25 ≤ a ∧ a ≤ q + 29) → z.1 a y = M a y) ∧ z.1 q 35 = M q 35 ∧ ∀ a, a ≠ q + 6 → a ≠ q + 21 → z.2 a = L a) = Q
  generalize hex : exB (c 1) (c 3) (b 0) (doE c e) = ex
  -- behind the leaving: acts of the edge, entering
  have rest : ∀ (B : mwM) (K : mwL), ReM q B K (tk2 c b e) (lvB c (usB b e) (doE c e)) va (alo ex (acD c va 1) (faL (c 3) (c 0 0) 41) D) x → (∀ a y, ¬ (q ≤ a ∧ a ≤ q + 23) → ¬ (q + 25 ≤ a ∧ a ≤ q + 29) → B a y = M a y) → B q 35 = M q 35 → (∀ a, a ≠ q + 6 → a ≠ q + 21 → K a = L a) → wq (mb2 (DX13_doActs fu q (sI e) 2 B K) (fun M13 L14 => mb2 (DX13_enter fu q (sI (doE c e)) (sI e) (sL now) M13 L14) (fun M15 L16 => some (M15, L16)))) Q := by
    intro B K hB o1 o2 o3
    have hB' := hB
    obtain ⟨_, _, k3, k4, _⟩ := hB'
    obtain ⟨rw1, k5, k6⟩ := k4.2.2.2.2.2.2
    have hKD := k4.2.2.2.2.2.1
    have hv2 := tk2_v (b := b) (e := e) hv
    refine wq_b2 (m_doActs (rw' := rw1) (w := 2) (o := e) (by omega) hv2.2.2.1 k3 (by omega) (by omega) k6 k5) ?_
    rintro M1 L1 ⟨y1, y2, y3, y4⟩
    dsimp only at y1 y2 y3 y4
    have hB1 : ReM q M1 L1 (tk2 c b e) (lvB c (usB b e) (doE c e)) va (acD (tk2 c b e) va 2 e (alo ex (acD c va 1) (faL (c 3) (c 0 0) 41) D)) x := by
      obtain ⟨j1, j2, j3, j4, j5, j6, j7, j8⟩ := hB
      refine ⟨TrM_f j1 (y4 _ _ (by omega) (by omega)) (fun a s u1 u2 => y4 _ _ (by omega) (by omega)), ?_, ?_, ?_, ?_, ?_, ?_, ?_⟩
      · refine ⟨?_, fun e u1 u2 => ?_⟩
        · simp (disch := omega) only [y4]; exact j2.1
        · simp (disch := omega) only [y4]; exact j2.2 e u1 u2
      · refine ⟨?_, fun i hi => ?_⟩
        · simp (disch := omega) only [y4]; exact j3.1
        · simp (disch := omega) only [y4, y2]; exact j3.2 i hi
      · simp (disch := omega) only [y4]
        refine ⟨j4.1, j4.2.1, j4.2.2.1, j4.2.2.2.1, j4.2.2.2.2.1, ?_, y3⟩
        rw [y1, hKD]
        rfl
      · intro s hs
        simp (disch := omega) only [y4, y2]; exact j5 s hs
      · intro s u1 hs
        simp (disch := omega) only [y4, y2]; exact j6 s u1 hs
      · simp (disch := omega) only [y4]; exact j7
      · intro e u1 u2
        simp (disch := omega) only [y4]; exact j8 e u1 u2
    have edo : doE c e = if e = 0 then 0 else doE (tk2 c b e) e := by
      rw [if_neg (by omega)]
      exact (doE_c (fun i hi => tk2_r (by omega))).symm
    refine wq_b2 (m_enter (g := tkg c b e) hf hv2 (lv_HiV hT hH) hB1 (by rw [tk2_r (by omega)]; exact he) edo (by rw [tk2_r (by omega)]; exact hdk) (by rw [if_neg (by omega)]; rfl)) ?_
    rintro M2 L2 ⟨z1, z2, z3⟩
    dsimp only at z1 z2 z3
    rw [← hQ]
    refine wq_some ⟨?_, fun a y u1 u2 => ?_, ?_, fun a u1 u2 => ?_⟩
    all_goals (try dsimp only)
    · have : tkD c b va e D = alo (cmB (tk2 c b e) (doE c e) (tkg c b e)) (acD (tk2 c b e) va 0) (riL (tk2 c b e 3) (tk2 c b e 0 0) 42) (acD (tk2 c b e) va 2 e (alo ex (acD c va 1) (faL (c 3) (c 0 0) 41) D)) := by
        unfold tkD
        rw [hu0, hex]
        rfl
      rw [this]
      exact z1
    · rw [z2 _ _ (by omega) (by omega) (by omega), y4 _ _ (by omega) (by omega)]; exact o1 a y u1 u2
    · rw [z2 _ _ (by omega) (by omega) (by omega), y4 _ _ (by omega) (by omega)]; exact o2
    · rw [z3 _ u1 u2, y2 _ u2]; exact o3 a u1 u2
  -- leaving by levels
  have leave : ∀ B : mwM, (∀ s, 1 ≤ s → s ≤ c 0 0 → B (q + 26) s = bI (ex s)) → (∀ s, s ≤ c 0 0 → B (q + 4) s = sI (tk2 c b e 13 s)) → (∀ j, 1 ≤ j → j ≤ c 0 1 → B (q + 14) j = bI (usB b e 3 j)) → (∃ r, r ≤ 500 ∧ B q 31 = sI r) → (∀ a y, ¬ (a = q + 4 ∨ a = q + 14 ∨ a = q + 22 ∨ a = q + 26) → ¬ (a = q ∧ y = 31) → B a y = M a y) → wq (fX13_take_h83 fu q (sI e) (sL now) fu (sI (doE c e), sI 41, B, L)) Q := by
    intro B o1 o2 o3 o4 o5
    refine wq_for (body := fun r z => fX13_take_i83 fu q (sI e) (sL now) r z.1 z.2.1 z.2.2.1 z.2.2.2) (fun i (w : mwM × mwL) => (sI (doE c e), sI (41 - i), w.1, w.2)) (fun i w => (∀ s, 1 ≤ s → s ≤ c 0 0 → w.1 (q + 9) s = bI (b 0 s && !(ex s && decide (41 - i < c 3 s)))) ∧ (∃ D1, w.2 (q + 21) = D1 ∧ faI (c 3) (c 0 0) ex (acD c va 1) (41 - i) D1 = faI (c 3) (c 0 0) ex (acD c va 1) 41 D) ∧ (∃ r, r ≤ 500 ∧ w.1 q 31 = sI r) ∧ w.1 (q + 9) 0 = M (q + 9) 0 ∧ (∀ a, a ≠ q + 21 → w.2 a = L a) ∧ ∀ a y, a ≠ q + 9 → a ≠ q + 22 → ¬ (a = q ∧ y = 31) → w.1 a y = B a y) 41 ?_ ?_ 41 0 (B, L) fu (by omega) (by omega) ⟨?_, ⟨D, hf4.2.2.2.2.2.1, rfl⟩, o4, o5 _ _ (by omega) (by omega), fun _ _ => rfl, fun _ _ _ _ _ => rfl⟩
    · rintro i ⟨a, l⟩ r83 hi ⟨p1, ⟨D1, p2, p3⟩, ⟨rw1, p4, p5⟩, p6, p7, p8⟩ ih
      dsimp only at p1 p2 p5 p6 p7 p8
      obtain ⟨j, hj⟩ : ∃ j, 41 - i = j + 1 := ⟨40 - i, by omega⟩
      have hj2 : 41 - (i + 1) = j := by omega
      rw [hj] at p1 p3
      show wq (fX13_take_i83 fu q (sI e) (sL now) r83 (sI (doE c e)) (sI (41 - i)) a l) _
      rw [hj]
      have key := fun (X : mwM) (Y : mwL) => ih (X, Y)
      dsimp only at key
      rw [hj2] at key
      unfold fX13_take_i83
      rw [if_neg (by rw [sI_lel (by omega) (by decide)]; omega)]
      refine wq_for (body := fun r z => fX13_take_i91 fu q (sI e) (sL now) r83 r z.1 z.2.1 z.2.2.1 z.2.2.2.1 z.2.2.2.2) (fun i (w : mwM × mwL) => (sI (doE c e), sI (j + 1), sI i, w.1, w.2)) (fun i w => 1 ≤ i ∧ (∀ s, 1 ≤ s → s ≤ c 0 0 → w.1 (q + 9) s = bI (b 0 s && !(ex s && (decide (j + 1 < c 3 s) || (decide (c 3 s = j + 1) && decide (s < i)))))) ∧ w.2 (q + 21) = nsI (fun s => ex s && decide (c 3 s = j + 1)) (acD c va 1) (i - 1) D1 ∧ (∃ r, r ≤ 500 ∧ w.1 q 31 = sI r) ∧ w.1 (q + 9) 0 = M (q + 9) 0 ∧ (∀ a, a ≠ q + 21 → w.2 a = L a) ∧ ∀ a y, a ≠ q + 9 → a ≠ q + 22 → ¬ (a = q ∧ y = 31) → w.1 a y = B a y) (c 0 0 + 1) ?_ ?_ (c 0 0) 1 (a, l) fu (by omega) (by omega) ⟨Nat.le_refl _, fun s u1 u2 => ?_, p2, ⟨rw1, p4, p5⟩, p6, p7, p8⟩
      · rintro s ⟨a, l⟩ r hs ⟨hs1, t1, t2, ⟨rw2, t3, t4⟩, t5, t6, t7⟩ ih2
        dsimp only at t1 t2 t4 t5 t6 t7
        obtain ⟨n, rfl⟩ : ∃ n, s = n + 1 := ⟨s - 1, by omega⟩
        show wq (fX13_take_i91 fu q (sI e) (sL now) r83 r (sI (doE c e)) (sI (j + 1)) (sI (n + 1)) a l) _
        have key2 := fun (X : mwM) (Y : mwL) => ih2 (X, Y)
        dsimp only at key2
        simp only [show n + 1 + 1 - 1 = n + 1 from rfl] at key2
        rw [Nat.add_sub_cancel] at t2
        have hde := (Tr_pa hT (show n + 1 ≤ c 0 0 by omega)).2.2.2.2
        have e2 : a q 2 = sI (c 0 0) := by rw [t7 _ _ (by omega) (by omega) (by omega), o5 _ _ (by omega) (by omega)]; exact hM.1
        have e26 : a (q + 26) (n + 1) = bI (ex (n + 1)) := by rw [t7 _ _ (by omega) (by omega) (by omega)]; exact o1 _ (by omega) (by omega)
        have e3 : a (q + 3) (n + 1) = sI (c 3 (n + 1)) := by rw [t7 _ _ (by omega) (by omega) (by omega), o5 _ _ (by omega) (by omega)]; exact (hM.2 _ (by omega)).2.2
        have ens : ∀ D0, nsI (fun s => ex s && decide (c 3 s = j + 1)) (acD c va 1) (n + 1) D0 = if (ex (n + 1) && decide (c 3 (n + 1) = j + 1)) = true then acD c va 1 (n + 1) (nsI (fun s => ex s && decide (c 3 s = j + 1)) (acD c va 1) n D0) else nsI (fun s => ex s && decide (c 3 s = j + 1)) (acD c va 1) n D0 := fun D0 => rfl
        have ltS : ∀ s, s ≠ n + 1 → decide (s < n + 1 + 1) = decide (s < n + 1) := by
          intro s hq
          by_cases hlt : s < n + 1
          · rw [decide_eq_true hlt, decide_eq_true (show s < n + 1 + 1 by omega)]
          · rw [decide_eq_false hlt, decide_eq_false (show ¬ s < n + 1 + 1 by omega)]
        have skip : (ex (n + 1) && decide (c 3 (n + 1) = j + 1)) = false → wq (r (sI (doE c e), sI (j + 1), sI (n + 1 + 1), a, l)) Q := by
          intro hno
          refine key2 a l ⟨by omega, fun s u1 u2 => ?_, ?_, ⟨rw2, t3, t4⟩, t5, t6, t7⟩
          · rw [t1 s u1 u2]
            by_cases hq : s = n + 1
            · subst hq
              cases hx : ex (n + 1) with
              | false => rfl
              | true =>
                rw [hx, Bool.true_and] at hno
                rw [hno]
                rfl
            · rw [ltS s hq]
          · rw [ens, hno, if_neg (by decide)]
            exact t2
        unfold fX13_take_i91 fX13_take_b145
        simp (disch := omega) only [e2, e26, e3, mck_s, sI_nn, nn_s, sI_lt, sI_le, sI_eq, sI_ltl, sI_lel, sI_eql, sI_llt, sI_lle, sI_1, bI_0, bI_1, bI_n, mlet, mb3_s, mb2_s]
        rw [if_neg (by omega)]
        cases hc : ex (n + 1) with
        | false =>
          rw [if_pos rfl]
          exact skip (by rw [hc]; rfl)
        | true =>
          rw [if_neg (by decide)]
          by_cases hdj : c 3 (n + 1) = j + 1
          · rw [if_pos hdj]
            refine wq_b2 (m_note (rw' := rw2) t4 t3) ?_
            rintro M1 L1 ⟨y1, ⟨rw3, y2, y4⟩, y3⟩
            dsimp only at y1 y4 y3
            subst y1
            simp (disch := omega) only [b0, mck_s, sI_nn, nn_s, sI_lt, sI_le, sI_eq, sI_ltl, sI_lel, sI_eql, sI_llt, sI_lle, sI_1, bI_0, bI_1, bI_n, mlet, mb3_s, mb2_s]
            refine wq_b2 (m_doActs (rw' := rw3) (w := 1) (o := n + 1) (n := c 0 2) (ax := fun i => c (8 + i)) (va := va) (by omega) hv.2.2.1 ⟨?_, fun i hi => ?_⟩ (by omega) (by omega) ?_ y2) ?_
            · simp (disch := omega) only [mset_n, y3, t7, o5]; exact hXM.1
            · have := hXM.2 i hi
              rw [← t6 (q + 20) (by omega)] at this
              simp (disch := omega) only [mset_n, y3, t7, o5]; exact this
            · simp (disch := omega) only [mset_n]; exact y4
            rintro M2 L2 ⟨z1, z2, z3, z4⟩
            dsimp only at z1 z2 z3 z4
            refine key2 M2 L2 ⟨by omega, fun s u1 u2 => ?_, ?_, z3, ?_, fun a' u1 => ?_, fun a' y u1 u2 u3 => ?_⟩
            · by_cases hq : s = n + 1
              · subst hq
                rw [hc, decide_eq_true hdj, decide_eq_true (show n + 1 < n + 1 + 1 by omega)]
                simp (disch := omega) only [z4, mset_n, mset_s]
                simp
              · rw [ltS s hq]
                simp (disch := omega) only [z4, mset_n, y3]
                exact t1 s u1 u2
            · rw [ens, hc, decide_eq_true hdj, Bool.and_self, if_pos rfl, z1, t2]
              rfl
            · simp (disch := omega) only [z4, mset_n, y3]; exact t5
            · rw [z2 _ u1]; exact t6 a' u1
            · rw [z4 _ _ u3 u2]
              simp (disch := omega) only [mset_n, y3]
              exact t7 a' y u1 u2 u3
          · rw [if_neg hdj]
            exact skip (by rw [hc, decide_eq_false hdj]; rfl)
      · rintro ⟨a, l⟩ r ⟨_, t1, t2, t3, t5, t6, t7⟩
        dsimp only at t1 t2 t3 t5 t6 t7
        rw [Nat.add_sub_cancel] at t2
        show wq (fX13_take_i91 fu q (sI e) (sL now) r83 r (sI (doE c e)) (sI (j + 1)) (sI (c 0 0 + 1)) a l) _
        have e2 : a q 2 = sI (c 0 0) := by rw [t7 _ _ (by omega) (by omega) (by omega), o5 _ _ (by omega) (by omega)]; exact hM.1
        unfold fX13_take_i91
        rw [e2, if_pos (by rw [sI_lt (by omega) (by omega)]; omega)]
        simp only [mlet]
        rw [sI_pm]
        refine key a l ⟨fun s u1 u2 => ?_, ⟨_, t2, p3⟩, t3, t5, t6, t7⟩
        rw [t1 s u1 u2, decide_eq_true (show s < c 0 0 + 1 by omega), Bool.and_true]
        have : (decide (j + 1 < c 3 s) || decide (c 3 s = j + 1)) = decide (j < c 3 s) := by
          by_cases h1 : j < c 3 s
          · rw [decide_eq_true h1]
            by_cases h2 : c 3 s = j + 1
            · rw [decide_eq_true h2]; simp
            · rw [decide_eq_true (show j + 1 < c 3 s by omega)]; rfl
          · rw [decide_eq_false h1, decide_eq_false (show ¬ j + 1 < c 3 s by omega), decide_eq_false (show ¬ c 3 s = j + 1 by omega)]; rfl
        rw [this]
      · dsimp only
        rw [p1 s u1 u2, decide_eq_false (show ¬ s < 1 by omega), Bool.and_false, Bool.or_false]
    · rintro ⟨a, l⟩ r ⟨p1, ⟨D1, p2, p3⟩, p4, p6, p7, p8⟩
      dsimp only at p1 p2 p4 p6 p7 p8
      show wq (fX13_take_i83 fu q (sI e) (sL now) r (sI (doE c e)) (sI (41 - 41)) a l) _
      unfold fX13_take_i83
      rw [if_pos (by decide)]
      have hD1 : D1 = alo ex (acD c va 1) (faL (c 3) (c 0 0) 41) D := by
        rw [← fa_alo]
        exact p3
      have fr : ∀ a' y, ¬ (a' = q + 4 ∨ a' = q + 9 ∨ a' = q + 14 ∨ a' = q + 22 ∨ a' = q + 26) → ¬ (a' = q ∧ y = 31) → a a' y = M a' y := fun a' y u1 u2 => by rw [p8 _ _ (by omega) (by omega) u2, o5 _ _ (by omega) u2]
      refine rest a l ?_ (fun a' y u1 u2 => fr a' y (by omega) (by omega)) (fr _ _ (by omega) (by omega)) (fun a' u1 u2 => p7 a' u2)
      have e3 : ∀ r, 1 ≤ r → lvB c (usB b e) (doE c e) r = usB b e r := by
        intro r hr
        funext s
        unfold lvB
        rw [if_neg (by omega)]
      unfold ReM
      rw [tk2_r (i := 0) (by omega), tk2_r (i := 1) (by omega), tk2_r (i := 2) (by omega), tk2_r (i := 3) (by omega), tk2_r (i := 4) (by omega), tk2_r (i := 5) (by omega), tk2_r (i := 6) (by omega), tk2_r (i := 7) (by omega), tk2_r (i := 12) (by omega), tk2_r (i := 14) (by omega), e3 1 (by omega), e3 2 (by omega), e3 3 (by omega), e3 4 (by omega), e3 5 (by omega), e3 6 (by omega), us_r (r := 1) (by omega), us_r (r := 2) (by omega), us_r (r := 4) (by omega), us_r (r := 5) (by omega), us_r (r := 6) (by omega)]
      refine ⟨TrM_f hM (fr _ _ (by omega) (by omega)) (fun a s u1 u2 => fr _ _ (by omega) (by omega)), ?_, ?_, ?_, ?_, ?_, ?_, ?_⟩
      · refine ⟨?_, fun e u1 u2 => ?_⟩
        · simp (disch := omega) only [fr]; exact hEM.1
        · simp (disch := omega) only [fr]; exact hEM.2 e u1 u2
      · refine ⟨?_, fun i hi => ?_⟩
        · simp (disch := omega) only [fr]; exact hXM.1
        · have := hXM.2 i hi
          dsimp only at this ⊢
          rw [tk2_r (by omega), tk2_r (by omega), tk2_r (by omega), tk2_r (by omega), p7 _ (by omega)]
          simp (disch := omega) only [fr]; exact this
      · rw [p2, hD1]
        simp (disch := omega) only [fr]
        exact ⟨hf4.1, hf4.2.1, hf4.2.2.1, hf4.2.2.2.1, hf4.2.2.2.2.1, trivial, p4⟩
      · intro s hs
        rw [p7 _ (by omega), p8 _ _ (by omega) (by omega) (by omega)]
        exact ⟨(h5 s hs).1, o2 s hs⟩
      · intro s u1 hs
        have := h6 s u1 hs
        have hd1 := (hT.2.2.2.2 s u1 hs)
        rw [p7 _ (by omega), p1 s u1 hs, fr (q + 7) s (by omega) (by omega), fr (q + 8) s (by omega) (by omega)]
        refine ⟨?_, this.2⟩
        rw [decide_eq_true (show 41 - 41 < c 3 s by omega), Bool.and_true]
        unfold lvB
        rw [if_pos rfl, hu0, ← hex]
        unfold exB
        cases b 0 s <;> simp
      · rw [p6]; exact h7
      · intro j u1 u2
        rw [p8 _ _ (by omega) (by omega) (by omega), fr (q + 15) j (by omega) (by omega), fr (q + 16) j (by omega) (by omega)]
        exact ⟨o3 j u1 u2, (h8 j u1 u2).2⟩
    · intro s u1 u2
      have hd1 := (hT.2.2.2.2 s u1 u2)
      dsimp only
      rw [o5 _ _ (by omega) (by omega), (h6 s u1 u2).1, decide_eq_false (show ¬ 41 - 0 < c 3 s by omega)]
      simp
  -- the beginning
  unfold DX13_take
  refine wq_b2 (m_note (rw' := rw0) hr1 hr0) ?_
  rintro M1 L1 ⟨y1, ⟨rw1, y2, y4⟩, y3⟩
  dsimp only at y1 y4 y3
  subst y1
  simp (disch := omega) only [b1, mck_s, sI_nn, nn_s, sI_lt, sI_le, sI_eq, sI_ltl, sI_lel, sI_eql, sI_llt, sI_lle, sI_1, bI_0, bI_1, bI_n, mlet, mb3_s, mb2_s]
  generalize hG : mset M1 (q + 14) e (bI true) = G
  have G1 : ∀ a y, ¬ (a = q + 14 ∨ a = q + 22) → ¬ (a = q ∧ y = 31) → G a y = M a y := by
    intro a y u1 u2
    subst hG
    rw [mset_n (by omega), y3 _ _ u2 (by omega)]
  have G14 : ∀ j, 1 ≤ j → j ≤ c 0 1 → G (q + 14) j = bI (usB b e 3 j) := by
    intro j u1 u2
    subst hG
    unfold usB
    by_cases hq : j = e
    · rw [hq, mset_s, if_pos ⟨rfl, rfl⟩]
    · rw [mset_j hq, y3 _ _ (by omega) (by omega), if_neg (fun z => hq z.2)]
      exact (h8 j u1 u2).1
  have G31 : G q 31 = sI rw1 := by
    subst hG
    rw [mset_k (by omega)]
    exact y4
  have gM : TrM G q (c 0 0) (c 1) (c 2) (c 3) := TrM_f hM (G1 _ _ (by omega) (by omega)) (fun d s u1 u2 => G1 _ _ (by omega) (by omega))
  have gE : EdM G q (c 0 1) (c 4) (c 5) (c 6) (c 7) := ⟨(G1 _ _ (by omega) (by omega)).trans hEM.1, fun j u1 u2 => by simp (disch := omega) only [G1]; exact hEM.2 j u1 u2⟩
  have gA : ∀ s, 1 ≤ s → s ≤ c 0 0 → G (q + 9) s = bI (b 0 s) := fun s u1 u2 => (G1 _ _ (by omega) (by omega)).trans (h6 s u1 u2).1
  rw [m_domain (by omega) hT gM hE gE he1 he, mb3_s]
  refine wq_b2 (m_findExits (d := doE c e) (by omega) hT gM gA hdl) ?_
  rintro B L2 ⟨z1, z2, z3⟩
  dsimp only at z1 z2 z3
  subst z1
  have z2' : ∀ s, 1 ≤ s → s ≤ c 0 0 → B (q + 26) s = bI (ex s) := by
    intro s u1 u2
    rw [z2 s u1 u2, ← hex]
    rfl
  have bA : ∀ s, 1 ≤ s → s ≤ c 0 0 → B (q + 9) s = bI (b 0 s) := fun s u1 u2 => (z3 _ _ (by omega)).trans (gA s u1 u2)
  -- the histories
  refine wq_for (body := fun r z => fX13_take_i30 fu q (sI e) (sL now) r z.1 z.2.1 z.2.2.1 z.2.2.2) (fun i (a : mwM) => (sI (doE c e), sI i, a, L2)) (fun i a => 1 ≤ i ∧ (∀ s, s ≤ c 0 0 → a (q + 4) s = sI (if s < i then tk2 c b e 13 s else c 13 s)) ∧ ∀ a' y, a' ≠ q + 4 → a a' y = B a' y) (c 0 0 + 1) ?_ ?_ (c 0 0) 1 B fu (by omega) (by omega) ⟨Nat.le_refl _, fun s hs => ?_, fun _ _ _ => rfl⟩
  · intro i a r hi ⟨hi1, p1, p2⟩ ih
    show wq (fX13_take_i30 fu q (sI e) (sL now) r (sI (doE c e)) (sI i) a L2) _
    have aM : TrM a q (c 0 0) (c 1) (c 2) (c 3) := TrM_f gM (by rw [p2 _ _ (by omega), z3 _ _ (by omega)]) (fun d s u1 u2 => by rw [p2 _ _ (by omega), z3 _ _ (by omega)])
    have aA : ∀ s, 1 ≤ s → s ≤ c 0 0 → a (q + 9) s = bI (b 0 s) := fun s u1 u2 => (p2 _ _ (by omega)).trans (bA s u1 u2)
    have e26 : a (q + 26) i = bI (ex i) := (p2 _ _ (by omega)).trans (z2' i hi1 (by omega))
    have e1 := (aM.2 i (by omega)).2.1
    have hki := (Tr_pa hT (show i ≤ c 0 0 by omega)).2.2.2.1
    have ech := m_child (fu := fu) (L := L2) (w := true) (ac := b 0) (s := i) (by omega) hT aM (fun _ => aA) (by omega)
    have hch : chF (c 1) (c 2) (c 0 0) (fun c => !true || b 0 c) i = chF (c 1) (c 2) (c 0 0) (b 0) i := rfl
    rw [hch, bI_t] at ech
    have e13 : tk2 c b e 13 i = if ex i = true ∧ c 2 i = 0 then chF (c 1) (c 2) (c 0 0) (b 0) i else c 13 i := by
      unfold tk2 lvC
      rw [hu0, hex]
      by_cases hq : ex i = true ∧ c 2 i = 0
      · rw [if_pos ⟨rfl, hq⟩, if_pos hq]
      · rw [if_neg (fun z => hq z.2), if_neg hq]
    have skip : ¬ (ex i = true ∧ c 2 i = 0) → wq (r (sI (doE c e), sI (i + 1), a, L2)) Q := by
      intro hno
      refine ih a ⟨by omega, fun s hs => ?_, p2⟩
      rw [p1 s hs]
      by_cases hq : s = i
      · subst hq
        rw [if_neg (by omega), if_pos (by omega), e13, if_neg hno]
      · by_cases hlt : s < i
        · rw [if_pos hlt, if_pos (by omega)]
        · rw [if_neg hlt, if_neg (by omega)]
    unfold fX13_take_i30 fX13_take_b73
    simp (disch := omega) only [aM.1, e26, e1, ech, mck_s, sI_nn, nn_s, sI_lt, sI_le, sI_eq, sI_ltl, sI_lel, sI_eql, sI_llt, sI_lle, sI_1, bI_0, bI_1, bI_n, mlet, mb3_s, mb2_s]
    rw [if_neg (by omega)]
    cases hx : ex i with
    | false =>
      rw [if_pos rfl]
      have := skip (fun z => by rw [hx] at z; cases z.1)
      exact this
    | true =>
      rw [if_neg (by decide)]
      by_cases hk : c 2 i = 0
      · rw [if_pos hk]
        refine ih _ ⟨by omega, fun s hs => ?_, fun a' y u => by rw [mset_k u]; exact p2 a' y u⟩
        by_cases hq : s = i
        · subst hq
          rw [mset_s, if_pos (by omega), e13, if_pos ⟨hx, hk⟩]
        · rw [mset_j hq, p1 s hs]
          by_cases hlt : s < i
          · rw [if_pos hlt, if_pos (by omega)]
          · rw [if_neg hlt, if_neg (by omega)]
      · rw [if_neg hk]
        exact skip (fun z => hk z.2)
  · intro a r ⟨_, p1, p2⟩
    show wq (fX13_take_i30 fu q (sI e) (sL now) r (sI (doE c e)) (sI (c 0 0 + 1)) a L2) _
    unfold fX13_take_i30
    rw [p2 _ _ (by omega), z3 _ _ (by omega), gM.1, if_pos (by rw [sI_lt (by omega) (by omega)]; omega)]
    refine leave a (fun s u1 u2 => ?_) (fun s hs => ?_) (fun j u1 u2 => ?_) ⟨rw1, y2, ?_⟩ (fun a' y u1 u2 => ?_)
    · rw [p2 _ _ (by omega)]; exact z2' s u1 u2
    · rw [p1 s hs, if_pos (by omega)]
    · rw [p2 _ _ (by omega), z3 _ _ (by omega)]; exact G14 j u1 u2
    · rw [p2 _ _ (by omega), z3 _ _ (by omega)]; exact G31
    · rw [p2 _ _ (by omega), z3 _ _ (by omega)]; exact G1 a' y (by omega) u2
  · rw [z3 _ _ (by omega), G1 _ _ (by omega) (by omega), (h5 s hs).2]
    by_cases hlt : s < 1
    · have hs0 : s = 0 := by omega
      subst hs0
      rw [if_pos hlt]
      congr 1
      unfold tk2 lvC
      rw [if_neg]
      rintro ⟨_, w, _⟩
      unfold exB at w
      rw [ins_0 hT] at w
      simp at w
    · rw [if_neg hlt]
/-! the class takes an edge -/
theorem tkC_r {c : Nat → Nat → Nat} {b : Nat → Nat → Bool} {e now i : Nat} (h : i ≠ 13) (h2 : i ≠ 14) : tkC c b e now i = c i := by
  have : tkC c b e now i = tk2 c b e i := by
    funext j
    unfold tkC ent
    rw [if_neg (fun z => h2 z.1)]
  rw [this, tk2_r h]
theorem tk_v {c : Nat → Nat → Nat} {b : Nat → Nat → Bool} {e now : Nat} (hv : Cv c) : Cv (tkC c b e now) := Cv_c (fun i hi => tkC_r (by omega) (by omega)) hv
theorem Cfg_us {c : Nat → Nat → Nat} {b : Nat → Nat → Bool} {e : Nat} (h : Cfg c b) : Cfg c (usB b e) := by
  have e0 : ∀ s, usB b e 0 s = b 0 s := fun s => congrFun (us_r (by omega)) s
  obtain ⟨h1, h2, h3, h4⟩ := h
  refine ⟨fun s u1 u2 u3 => ?_, fun s t u1 u2 u3 u4 u5 u6 => ?_, fun p hp u1 => ?_, h4⟩
  · rw [e0] at u3 ⊢
    exact h1 s u1 u2 u3
  · rw [e0] at u5 u6
    exact h2 s t u1 u2 u3 u4 u5 u6
  · simp only [e0] at u1 ⊢
    exact h3 p hp u1
theorem tk_G {c : Nat → Nat → Nat} {b : Nat → Nat → Bool} {e : Nat} (hv : Cv c) : GoA (tk2 c b e) (doE c e) (tkg c b e) := by
  have := GoA_N (c := tk2 c b e) (e := e) (tk2_v hv) _ (Nat.le_refl _)
  rw [doE_c (c := c) (c' := tk2 c b e) (fun i hi => tk2_r (by omega))] at this
  exact this
theorem cf_take {c : Nat → Nat → Nat} {b : Nat → Nat → Bool} {e now : Nat} (hv : Cv c) (h : Cfg c b) (hd : doE c e = 0 ∨ b 0 (doE c e) = true) : Cfg (tkC c b e now) (tkB c b e) ∧ ∀ s, s ≤ c 0 0 → chE (tk2 c b e) (tkm c b e) (fun s => if exB (c 1) (c 3) (usB b e 0) (doE c e) s = true then 0 else chK c (usB b e) s) s = chK (tkC c b e now) (tkB c b e) s := by
  have e0 : usB b e 0 = b 0 := us_r (by omega)
  exact cf_step (g := tkg c b e) (now := now) hv.1 (Cfg_D (Cfg_us h)) doE_le (do_k0 hv) (by rw [e0]; exact hd) rfl (tk_G hv)
theorem c_go1 {β : Type} {fu : Nat} {A : mwM} {L : mwL} {k e now : Nat} {c : Nat → Nat → Nat} {b : Nat → Nat → Bool} {va : Nat → Int32} {D : Nat → Int64} {x : Nat → Int32} {K : mwM → mwL → Option β} {Q : β → Prop} (hf : 601 ≤ fu) (hv : Cv c) (hc : Cfg c b) (h : ReC k A L c b va D x) (he1 : 1 ≤ e) (he : e ≤ c 0 1) (h5e : c 2 (c 5 e) ≠ 5) (hd : doE c e = 0 ∨ b 0 (doE c e) = true) (hnow : A k 12 = sI now) (hK : ∀ A' L', ReC k A' L' (tkC c b e now) (tkB c b e) va (tkD c b va e D) x → (∀ a y, ¬ (k + 7 ≤ a ∧ a ≤ k + 17) → a ≠ k + 26 → A' a y = A a y) → (∀ a, a ≠ k + 34 → L' a = L a) → wq (K A' L') Q) : wq (mb2 (DX2_leaveAll fu k (sI (doE c e)) (mset A (k + 26) e (A (k + 26) e ||| 1)) L) (fun M12 L13 => mb2 (DX2_doActs fu k 2 (sI e) M12 L13) (fun M14 L15 => mb2 (DX2_aim fu k (sI e) (sI (doE c e)) M14 L15) (fun M16 L17 => mb2 (DX2_enterAll fu k (sI (doE c e)) M16 L17) (fun M18 L19 => K M18 L19))))) Q := by
  have hT := hv.1
  have hE4 := hv.2.1.1
  have hN := hT.1
  have e0 : usB b e 0 = b 0 := us_r (by omega)
  -- seen
  have hB : ReC k (mset A (k + 26) e (A (k + 26) e ||| 1)) L c (usB b e) va D x := by
    obtain ⟨j1, j2, j3, j4, j5, j6, j7, j8⟩ := h
    have hK2 : ∀ s, chK c (usB b e) s = chK c b s := by
      intro s
      unfold chK
      rw [e0]
    unfold ReC ReC'
    rw [us_r (r := 0) (by omega), us_r (r := 1) (by omega), us_r (r := 2) (by omega), us_r (r := 4) (by omega), us_r (r := 5) (by omega), us_r (r := 6) (by omega)]
    refine ⟨TrC_f j1 (mset_k (by omega)) (fun a s u1 u2 => mset_k (by omega)), ?_, ?_, ?_, ?_, ?_, ?_, ?_⟩
    · refine ⟨?_, fun e u1 u2 => ?_⟩
      · simp (disch := omega) only [mset_n]; exact j2.1
      · simp (disch := omega) only [mset_n]; exact j2.2 e u1 u2
    · refine ⟨?_, fun i hi => ?_⟩
      · simp (disch := omega) only [mset_n]; exact j3.1
      · simp (disch := omega) only [mset_n]; exact j3.2 i hi
    · simp (disch := omega) only [mset_n]; exact j4
    · intro s hs
      rw [hK2]
      simp (disch := omega) only [mset_n]; exact j5 s hs
    · intro s u1 hs
      simp (disch := omega) only [mset_n]; exact j6 s u1 hs
    · refine ⟨fun i w hw => ?_, fun i w hw => ?_⟩
      · simp (disch := omega) only [mset_n]; exact j7.1 i w hw
      · simp (disch := omega) only [mset_n]; exact j7.2 i w hw
    · intro j u1 u2
      unfold usB
      by_cases hq : j = e
      · subst hq
        rw [mset_s, if_pos ⟨rfl, rfl⟩, j8 j u1 u2, sn_u]
      · rw [mset_j hq, if_neg (fun z => hq z.2)]
        exact j8 j u1 u2
  refine wq_b2 (c_leaveAll hf hv hB doE_le (cf_hz (Cfg_us hc))) ?_
  rintro M1 L1 ⟨y1, y2, y3⟩
  dsimp only at y1 y2 y3
  have hv2 := tk2_v (b := b) (e := e) hv
  have y1' : ReX (fun s => if exB (c 1) (c 3) (usB b e 0) (doE c e) s = true then 0 else chK c (usB b e) s) k M1 L1 (tk2 c b e) (lvB c (usB b e) (doE c e)) va (alo (exB (c 1) (c 3) (usB b e 0) (doE c e)) (acD c va 1) (faL (c 3) (c 0 0) 41) D) x := y1
  obtain ⟨j1, j2, j3, j4, j5, j6, j7, j8⟩ := y1'
  refine wq_b2 (c_doActs (w := 2) (o := e) (by omega) hv2.2.2.1 j3 (by omega) (by omega)) ?_
  rintro M2 L2 ⟨z1, z2, z3⟩
  dsimp only at z1 z2 z3
  subst z1
  have edo : doE (tk2 c b e) e = doE c e := doE_c (fun i hi => tk2_r (by omega))
  have am := c_aim (fu := fu) (L := L2) (e := e) (by omega) hv2 j1 j2 (by rw [tk2_r (by omega)]; exact he) (fun _ => by rw [tk2_r (by omega), tk2_r (by omega)]; exact h5e) (fun z => by omega)
  rw [edo] at am
  refine wq_b2 am ?_
  rintro M3 L3 ⟨w1, ⟨P, w2, w3⟩, w4⟩
  dsimp only at w1 w2 w3 w4
  subst w1
  rw [if_neg (by omega)] at w2 w3
  have hX3 : ReX (fun s => if exB (c 1) (c 3) (usB b e 0) (doE c e) s = true then 0 else chK c (usB b e) s) k M3 L3 (tk2 c b e) (lvB c (usB b e) (doE c e)) va (acD (tk2 c b e) va 2 e (alo (exB (c 1) (c 3) (usB b e 0) (doE c e)) (acD c va 1) (faL (c 3) (c 0 0) 41) D)) x := by
    refine ⟨TrC_f j1 (w4 _ _ (by omega) (by omega)) (fun a s u1 u2 => w4 _ _ (by omega) (by omega)), ?_, ?_, ?_, ?_, ?_, ?_, ?_⟩
    · refine ⟨?_, fun e u1 u2 => ?_⟩
      · simp (disch := omega) only [w4]; exact j2.1
      · simp (disch := omega) only [w4]; exact j2.2 e u1 u2
    · refine ⟨?_, fun i hi => ?_⟩
      · simp (disch := omega) only [w4]; exact j3.1
      · simp (disch := omega) only [w4]; exact j3.2 i hi
    · simp (disch := omega) only [w4]
      refine ⟨j4.1, j4.2.1, j4.2.2.1, j4.2.2.2.1, j4.2.2.2.2.1, ?_⟩
      rw [z2, j4.2.2.2.2.2]
      rfl
    · intro s hs
      simp (disch := omega) only [w4]; exact j5 s hs
    · intro s u1 hs
      simp (disch := omega) only [w4]; exact j6 s u1 hs
    · refine ⟨fun i w hw => ?_, fun i w hw => ?_⟩
      · simp (disch := omega) only [w4]; exact j7.1 i w hw
      · simp (disch := omega) only [w4]; exact j7.2 i w hw
    · intro j u1 u2
      simp (disch := omega) only [w4]; exact j8 j u1 u2
  have hH2 : HiV (tk2 c b e) := lv_HiV hT hc.2.2.2
  refine wq_b2 (c_enterAll (now := now) hf hv2 hX3 (tk_G hv) w2 w3 (by rw [tk2_r (by omega)]; exact doE_le) (HiV_le hH2) ?_) ?_
  · rw [w4 _ _ (by omega) (by omega), y2 _ _ (by omega) (by omega), mset_k (by omega)]; exact hnow
  rintro M4 L4 ⟨v1, v2, v3⟩
  dsimp only at v1 v2 v3
  refine hK M4 L4 ?_ (fun a y u1 u2 => ?_) (fun a u => ?_)
  · rw [ReC_X]
    refine ReX_ch v1 (fun s hs => ?_)
    have hs2 : s ≤ tkC c b e now 0 0 := hs
    rw [tkC_r (by omega) (by omega)] at hs2
    exact (cf_take hv hc hd).2 s hs2
  · rw [v2 _ _ (by omega), w4 _ _ (by omega) (by omega), y2 _ _ (by omega) (by omega), mset_k u2]
  · rw [v3 _ u, z3 _ u, y3 _ u]
/-! a step: several edges -/
def stL (va : Nat → Int32) (now : Nat) : List Nat → (Nat → Nat → Nat) × (Nat → Nat → Bool) × (Nat → Int64) → (Nat → Nat → Nat) × (Nat → Nat → Bool) × (Nat → Int64)
  | [], z => z
  | e :: l, z => stL va now l (tkC z.1 z.2.1 e now, tkB z.1 z.2.1 e, tkD z.1 z.2.1 va e z.2.2)
theorem st_app {va : Nat → Int32} {now : Nat} : ∀ (l1 l2 : List Nat) (z), stL va now (l1 ++ l2) z = stL va now l2 (stL va now l1 z) := by
  intro l1
  induction l1 with
  | nil => intro l2 z; rfl
  | cons e l ih => intro l2 z; exact ih l2 _
def TkO (c : Nat → Nat → Nat) (b : Nat → Nat → Bool) (l : List Nat) : Prop := (∀ e, e ∈ l → 1 ≤ e ∧ e ≤ c 0 1 ∧ c 2 (c 5 e) ≠ 5 ∧ (doE c e = 0 ∨ b 0 (doE c e) = true)) ∧ List.Pairwise (fun e1 e2 => insB (c 1) (c 3) (doE c e1) (doE c e2) = false) l
theorem Tk_S {c : Nat → Nat → Nat} {b : Nat → Nat → Bool} {e now : Nat} {l : List Nat} (h : TkO c b (e :: l)) : TkO (tkC c b e now) (tkB c b e) l := by
  obtain ⟨h1, h2⟩ := h
  rw [List.pairwise_cons] at h2
  have edo : ∀ j, doE (tkC c b e now) j = doE c j := fun j => doE_c (fun i hi => tkC_r (by omega) (by omega))
  refine ⟨fun j hj => ?_, ?_⟩
  · obtain ⟨u1, u2, u3, u4⟩ := h1 j (List.mem_cons_of_mem _ hj)
    rw [edo, tkC_r (i := 0) (by omega) (by omega), tkC_r (i := 2) (by omega) (by omega), tkC_r (i := 5) (by omega) (by omega)]
    refine ⟨u1, u2, u3, ?_⟩
    rcases u4 with v | v
    · exact Or.inl v
    · right
      unfold tkB enb lvB
      rw [if_pos rfl, if_pos rfl, us_r (by omega), v, h2.1 j hj]
      rfl
  · refine List.Pairwise.imp (fun {x y} hxy => ?_) h2.2
    rw [edo, edo, tkC_r (i := 1) (by omega) (by omega), tkC_r (i := 3) (by omega) (by omega)]
    exact hxy
def InZ (z : (Nat → Nat → Nat) × (Nat → Nat → Bool) × (Nat → Int64)) (l : List Nat) : Prop := Cv z.1 ∧ Cfg z.1 z.2.1 ∧ TkO z.1 z.2.1 l
theorem In_S {va : Nat → Int32} {now e : Nat} {z : (Nat → Nat → Nat) × (Nat → Nat → Bool) × (Nat → Int64)} {l : List Nat} (h : InZ z (e :: l)) : InZ (tkC z.1 z.2.1 e now, tkB z.1 z.2.1 e, tkD z.1 z.2.1 va e z.2.2) l := by
  obtain ⟨h1, h2, h3⟩ := h
  exact ⟨tk_v h1, (cf_take h1 h2 (h3.1 e (List.mem_cons_self ..)).2.2.2).1, Tk_S h3⟩
/-- the class goes on -/
theorem c_goOn {fu : Nat} {A : mwM} {L : mwL} {k now : Nat} {z : (Nat → Nat → Nat) × (Nat → Nat → Bool) × (Nat → Int64)} {va : Nat → Int32} {x : Nat → Int32} {T : List Nat} (hf : 601 ≤ fu) (hz : InZ z T) (h : ReC k A L z.1 z.2.1 va z.2.2 x) (hD : ∀ e, e ∈ T → A (k + 25) e = sI (doE z.1 e)) (hR : LiZ A (k + 27) T) (hTl : T.length ≤ 400) (hnow : A k 12 = sI now) : wq (DX2_goOn fu k (sI T.length) A L) (fun w => InZ (stL va now T z) [] ∧ ReC k w.1 w.2 (stL va now T z).1 (stL va now T z).2.1 va (stL va now T z).2.2 x ∧ (∀ a y, ¬ (k + 7 ≤ a ∧ a ≤ k + 17) → a ≠ k + 26 → w.1 a y = A a y) ∧ ∀ a, a ≠ k + 34 → w.2 a = L a) := by
  unfold DX2_goOn
  refine wq_for (body := fun r s => fX2_goOn_i2 fu k (sI T.length) r s.1 s.2.1 s.2.2) (fun i (w : mwM × mwL) => (sI i, w.1, w.2)) (fun i w => InZ (stL va now (T.take i) z) (T.drop i) ∧ (∀ e, doE (stL va now (T.take i) z).1 e = doE z.1 e) ∧ ReC k w.1 w.2 (stL va now (T.take i) z).1 (stL va now (T.take i) z).2.1 va (stL va now (T.take i) z).2.2 x ∧ (∀ a y, ¬ (k + 7 ≤ a ∧ a ≤ k + 17) → a ≠ k + 26 → w.1 a y = A a y) ∧ ∀ a, a ≠ k + 34 → w.2 a = L a) T.length ?_ ?_ T.length 0 (A, L) fu (by omega) (by omega) ⟨hz, fun _ => rfl, h, fun _ _ _ _ => rfl, fun _ _ => rfl⟩
  · rintro i ⟨a, l⟩ r hi ⟨p1, p5, p2, p3, p4⟩ ih
    dsimp only at p2 p3 p4
    show wq (fX2_goOn_i2 fu k (sI T.length) r (sI i) a l) _
    have key := fun (X : mwM) (Y : mwL) => ih (X, Y)
    dsimp only at key
    have hget := List.getElem?_eq_getElem hi
    rw [List.drop_eq_getElem_cons hi] at p1
    rw [tk_S hi, st_app] at key
    have hmem : T[i] ∈ T := List.getElem_mem hi
    generalize T[i] = e at *
    generalize stL va now (T.take i) z = y at *
    have st1 : stL va now [e] y = (tkC y.1 y.2.1 e now, tkB y.1 y.2.1 e, tkD y.1 y.2.1 va e y.2.2) := rfl
    rw [st1] at key
    dsimp only at key
    obtain ⟨q1, q2, q3⟩ := p1
    obtain ⟨u1, u2, u3, u4⟩ := q3.1 e (List.mem_cons_self ..)
    have hE4 := q1.2.1.1
    have hN := q1.1.1
    have e27 : a (k + 27) i = sI e := (p3 _ _ (by omega) (by omega)).trans (hR i e hget)
    have e25 : a (k + 25) e = sI (doE y.1 e) := by
      rw [p3 _ _ (by omega) (by omega), hD e hmem, p5]
    unfold fX2_goOn_i2
    simp (disch := omega) only [e27, e25, mck_s, sI_nn, nn_s, sI_lt, sI_le, sI_eq, sI_ltl, sI_lel, sI_eql, sI_llt, sI_lle, sI_1, bI_0, bI_1, bI_n, mlet, mb3_s, mb2_s]
    rw [if_neg (by omega)]
    refine c_go1 (now := now) hf q1 q2 p2 u1 u2 u3 u4 ((p3 _ _ (by omega) (by omega)).trans hnow) ?_
    intro A' L' v1 v2 v3
    refine key A' L' ⟨In_S ⟨q1, q2, q3⟩, fun j => ?_, v1, fun a' y' w1 w2 => (v2 a' y' w1 w2).trans (p3 a' y' w1 w2), fun a' w => (v3 a' w).trans (p4 a' w)⟩
    rw [← p5 j]
    exact doE_c (fun i hi => tkC_r (by omega) (by omega))
  · rintro ⟨a, l⟩ r ⟨p1, p5, p2, p3, p4⟩
    dsimp only at p2 p3 p4
    show wq (fX2_goOn_i2 fu k (sI T.length) r (sI T.length) a l) _
    rw [List.take_length] at p1 p2
    rw [List.drop_length] at p1
    unfold fX2_goOn_i2
    rw [if_pos (by rw [sI_le (by omega) (by omega)]; exact Nat.le_refl _)]
    exact wq_some ⟨p1, p2, p3, p4⟩
/-- the reference steps -/
theorem m_stepC {fu : Nat} {M : mwM} {L : mwL} {q now : Nat} {z : (Nat → Nat → Nat) × (Nat → Nat → Bool) × (Nat → Int64)} {va : Nat → Int32} {x : Nat → Int32} {T : List Nat} (hf : 601 ≤ fu) (hz : InZ z T) (h : ReM q M L z.1 z.2.1 va z.2.2 x) (hR : LiZ M (q + 24) T) (hR2 : M q 35 = sI T.length) (hTl : T.length ≤ 400) : wq (DX13_step fu q (sL now) M L) (fun w => w.1 = sI T.length ∧ InZ (stL va now T z) [] ∧ ReM q w.2.1 w.2.2 (stL va now T z).1 (stL va now T z).2.1 va (stL va now T z).2.2 x ∧ (∀ a y, ¬ (q ≤ a ∧ a ≤ q + 29) → w.2.1 a y = M a y) ∧ ∀ a, a ≠ q + 6 → a ≠ q + 21 → w.2.2 a = L a) := by
  unfold DX13_step
  refine wq_for (body := fun r s => fX13_step_i2 fu q (sL now) r s.1 s.2.1 s.2.2) (fun i (w : mwM × mwL) => (sI i, w.1, w.2)) (fun i w => InZ (stL va now (T.take i) z) (T.drop i) ∧ ReM q w.1 w.2 (stL va now (T.take i) z).1 (stL va now (T.take i) z).2.1 va (stL va now (T.take i) z).2.2 x ∧ (∀ a y, ¬ (q ≤ a ∧ a ≤ q + 23) → ¬ (q + 25 ≤ a ∧ a ≤ q + 29) → w.1 a y = M a y) ∧ w.1 q 35 = M q 35 ∧ ∀ a, a ≠ q + 6 → a ≠ q + 21 → w.2 a = L a) T.length ?_ ?_ T.length 0 (M, L) fu (by omega) (by omega) ⟨hz, h, fun _ _ _ _ => rfl, rfl, fun _ _ _ => rfl⟩
  · rintro i ⟨a, l⟩ r hi ⟨p1, p2, p3, p5, p4⟩ ih
    dsimp only at p2 p3 p4 p5
    show wq (fX13_step_i2 fu q (sL now) r (sI i) a l) _
    have key := fun (X : mwM) (Y : mwL) => ih (X, Y)
    dsimp only at key
    have hget := List.getElem?_eq_getElem hi
    rw [List.drop_eq_getElem_cons hi] at p1
    rw [tk_S hi, st_app] at key
    generalize T[i] = e at *
    generalize stL va now (T.take i) z = y at *
    have st1 : stL va now [e] y = (tkC y.1 y.2.1 e now, tkB y.1 y.2.1 e, tkD y.1 y.2.1 va e y.2.2) := rfl
    rw [st1] at key
    dsimp only at key
    obtain ⟨q1, q2, q3⟩ := p1
    obtain ⟨u1, u2, u3, u4⟩ := q3.1 e (List.mem_cons_self ..)
    have e24 : a (q + 24) i = sI e := (p3 _ _ (by omega) (by omega)).trans (hR i e hget)
    have e35 : a q 35 = sI T.length := p5.trans hR2
    unfold fX13_step_i2
    simp (disch := omega) only [e24, e35, mck_s, sI_nn, nn_s, sI_lt, sI_le, sI_eq, sI_ltl, sI_lel, sI_eql, sI_llt, sI_lle, sI_1, bI_0, bI_1, bI_n, mlet, mb3_s, mb2_s]
    rw [if_neg (by omega)]
    refine wq_b2 (m_take (now := now) hf q1 q2.2.2.2 p2 u1 u2) ?_
    rintro M1 L1 ⟨v1, v2, v3, v4⟩
    dsimp only at v1 v2 v3 v4
    exact key M1 L1 ⟨In_S ⟨q1, q2, q3⟩, v1, fun a' y' w1 w2 => (v2 a' y' w1 w2).trans (p3 a' y' w1 w2), v3.trans p5, fun a' w1 w2 => (v4 a' w1 w2).trans (p4 a' w1 w2)⟩
  · rintro ⟨a, l⟩ r ⟨p1, p2, p3, p5, p4⟩
    dsimp only at p2 p3 p4 p5
    show wq (fX13_step_i2 fu q (sL now) r (sI T.length) a l) _
    rw [List.take_length] at p1 p2
    rw [List.drop_length] at p1
    have e35 : a q 35 = sI T.length := p5.trans hR2
    unfold fX13_step_i2
    rw [e35, if_pos (by rw [sI_le (by omega) (by omega)]; exact Nat.le_refl _)]
    exact wq_some ⟨rfl, p1, p2, fun a' y u => p3 a' y (by omega) (by omega), p4⟩
/-! what is taken may be taken, one after the other -/
theorem ins_trans {N : Nat} {pa kd de : Nat → Nat} (h : Tr N pa kd de) {d1 d2 : Nat} (h12 : insB pa de d1 d2 = true) : ∀ s, s ≤ N → insB pa de d2 s = true → insB pa de d1 s = true := by
  intro s hs h2
  refine up_ind h (P := fun s => s = d2 ∨ insB pa de d1 s = true) (Or.inl rfl) ?_ s hs (Or.inr h2) |>.resolve_left ?_
  · intro f hf hd _ ih
    right
    rw [ins_S h (ins_1 h hd) hf, Bool.or_eq_true]
    rcases ih with q | q
    · right; rw [q]; exact h12
    · exact Or.inr q
  · intro z
    have := ins_lt h s hs h2
    rw [z] at this
    omega
theorem anc_act {c : Nat → Nat → Nat} {b : Nat → Nat → Bool} (hT : Tr (c 0 0) (c 1) (c 2) (c 3)) (h1 : Cf1 c b) {d : Nat} : ∀ s, s ≤ c 0 0 → insB (c 1) (c 3) d s = true → b 0 s = true → d = 0 ∨ b 0 d = true := by
  intro s
  induction s using Nat.strongRecOn with
  | _ s ih =>
    intro hs hi hb
    have s1 := ins_1 hT hi
    have hp := (hT.2.2.2.2 s s1 hs).1
    have w := h1 s s1 hs hb
    rw [ins_S hT s1 hs, Bool.or_eq_true, decide_eq_true_eq] at hi
    rcases hi with q | q
    · rw [← q]; exact w.2
    · rcases w.2 with v | v
      · rw [v, ins_0 hT] at q; cases q
      · exact ih (c 1 s) hp (by omega) q v
def JcL (c : Nat → Nat → Nat) (b : Nat → Nat → Bool) (st : (Nat → Bool) × List Nat) : Prop := (∀ s, 1 ≤ s → s ≤ c 0 0 → (st.1 s = true ↔ ∃ e, e ∈ st.2 ∧ exB (c 1) (c 3) (b 0) (doE c e) s = true)) ∧ List.Pairwise (fun e1 e2 => ∀ s, 1 ≤ s → s ≤ c 0 0 → ¬ (exB (c 1) (c 3) (b 0) (doE c e1) s = true ∧ exB (c 1) (c 3) (b 0) (doE c e2) s = true)) st.2
theorem J_S {c : Nat → Nat → Nat} {b : Nat → Nat → Bool} {st : (Nat → Bool) × List Nat} {e : Nat} (h : JcL c b st) : JcL c b (clS c b st e) := by
  unfold clS
  by_cases ha : apB (c 1) (c 3) (b 0) (c 0 0) (doE c e) st.1 = true
  · rw [if_pos ha]
    refine ⟨fun s u1 u2 => ?_, ?_⟩
    · dsimp only
      rw [Bool.or_eq_true, h.1 s u1 u2]
      constructor
      · rintro (⟨e', v1, v2⟩ | v)
        · exact ⟨e', List.mem_append_left _ v1, v2⟩
        · exact ⟨e, List.mem_append_right _ (List.mem_singleton.mpr rfl), v⟩
      · rintro ⟨e', v1, v2⟩
        rw [List.mem_append, List.mem_singleton] at v1
        rcases v1 with w | w
        · exact Or.inl ⟨e', w, v2⟩
        · rw [w] at v2; exact Or.inr v2
    · dsimp only
      rw [List.pairwise_append]
      refine ⟨h.2, List.pairwise_singleton _ _, ?_⟩
      intro e1 h1 e2 h2 s u1 u2 ⟨v1, v2⟩
      rw [List.mem_singleton] at h2
      subst h2
      have hg := (h.1 s u1 u2).mpr ⟨e1, h1, v1⟩
      unfold apB at ha
      have := (allN_iff _).mp ha s u1 u2
      rw [v2, hg] at this
      cases this
  · rw [if_neg ha]; exact h
theorem J_L {c : Nat → Nat → Nat} {b : Nat → Nat → Bool} : ∀ (l : List Nat) (st : (Nat → Bool) × List Nat), JcL c b st → JcL c b (l.foldl (clS c b) st) ∧ ∀ e, e ∈ (l.foldl (clS c b) st).2 → e ∈ st.2 ∨ e ∈ l := by
  intro l
  induction l with
  | nil => intro st h; exact ⟨h, fun e he => Or.inl he⟩
  | cons a l ih =>
    intro st h
    have := ih (clS c b st a) (J_S h)
    refine ⟨this.1, fun e he => ?_⟩
    rcases this.2 e he with v | v
    · unfold clS at v
      by_cases ha : apB (c 1) (c 3) (b 0) (c 0 0) (doE c a) st.1 = true
      · rw [if_pos ha] at v
        dsimp only at v
        rw [List.mem_append, List.mem_singleton] at v
        rcases v with w | w
        · exact Or.inl w
        · right; rw [w]; exact List.mem_cons_self ..
      · rw [if_neg ha] at v
        exact Or.inl v
    · exact Or.inr (List.mem_cons_of_mem _ v)
theorem J_0 {c : Nat → Nat → Nat} {b : Nat → Nat → Bool} : JcL c b (fun _ => false, []) := by
  refine ⟨fun s _ _ => ⟨fun z => ?_, ?_⟩, List.Pairwise.nil⟩
  · cases z
  · rintro ⟨e, he, _⟩
    cases he
theorem tk_mem {c : Nat → Nat → Nat} {b : Nat → Nat → Bool} {D : Nat → Int64} {v e : Nat} (h : e ∈ tkL c b D v) : 1 ≤ e ∧ e ≤ c 0 1 ∧ rdB c b D v e = true := by
  have := (J_L (c := c) (b := b) (srL c b D v) (fun _ => false, []) J_0).2 e h
  rcases this with w | w
  · cases w
  · exact sr_mem w
theorem se_0 {c : Nat → Nat → Nat} {b : Nat → Nat → Bool} {D : Nat → Int64} {v n : Nat} : seb c b D v n 0 = b 0 := by
  funext s
  unfold seb
  rw [if_neg (by omega), if_neg (by omega)]
theorem tk_ok {c : Nat → Nat → Nat} {b : Nat → Nat → Bool} {D : Nat → Int64} {v : Nat} (hv : Cv c) (hc : Cfg c b) : TkO c (seb c b D v (c 0 1)) (tkL c b D v) := by
  have hT := hv.1
  -- a source of what is ready
  have src : ∀ e, 1 ≤ e → e ≤ c 0 1 → rdB c b D v e = true → ∃ s, 1 ≤ s ∧ s ≤ c 0 0 ∧ b 0 s = true ∧ (doE c e = 0 ∨ insB (c 1) (c 3) (doE c e) s = true) := by
    intro e h1 h2 h3
    obtain ⟨j, j1, j2, j3, j4⟩ := rd_src h3
    obtain ⟨u1, u2, _⟩ := hv.2.1.2 j j1 j2
    refine ⟨c 4 j, u1, u2, j4, ?_⟩
    rcases do_good hv (e := e) with w | w
    · exact Or.inl w
    · right
      have := w.2
      unfold goodB at this
      have h4 := (allN_iff _).mp this j j1 j2
      rw [Bool.and_eq_true, j3] at h4
      simpa using h4.1
  refine ⟨fun e he => ?_, ?_⟩
  · obtain ⟨h1, h2, h3⟩ := tk_mem he
    refine ⟨h1, h2, ?_, ?_⟩
    · unfold rdB cnB goB at h3
      simp only [Bool.and_eq_true, decide_eq_true_eq] at h3
      exact h3.1.2.1
    · rw [se_0]
      obtain ⟨s, s1, s2, s3, s4⟩ := src e h1 h2 h3
      rcases s4 with w | w
      · exact Or.inl w
      · exact anc_act hT hc.1 s s2 w s3
  · have hj := (J_L (c := c) (b := b) (srL c b D v) (fun _ => false, []) J_0).1.2
    have hj2 : List.Pairwise (fun e1 e2 => ∀ s, 1 ≤ s → s ≤ c 0 0 → ¬ (exB (c 1) (c 3) (b 0) (doE c e1) s = true ∧ exB (c 1) (c 3) (b 0) (doE c e2) s = true)) (tkL c b D v) := hj
    refine List.Pairwise.imp_of_mem (fun {e1 e2} m1 m2 hr => ?_) hj2
    obtain ⟨h1, h2, h3⟩ := tk_mem m2
    obtain ⟨s, s1, s2, s3, s4⟩ := src e2 h1 h2 h3
    by_cases hx : insB (c 1) (c 3) (doE c e1) (doE c e2) = true
    · exfalso
      rcases s4 with w | w
      · rw [w, ins_0 hT] at hx; cases hx
      · refine hr s s1 s2 ⟨?_, ?_⟩
        · unfold exB
          rw [s3, ins_trans hT hx s s2 w]
          rfl
        · unfold exB
          rw [s3, w]
          rfl
    · simpa using hx
theorem tk_len {c : Nat → Nat → Nat} {b : Nat → Nat → Bool} {D : Nat → Int64} {v : Nat} (hv : Cv c) : (tkL c b D v).length ≤ c 0 1 := by
  have hl : ∀ (l : List Nat) (st : (Nat → Bool) × List Nat), (l.foldl (clS c b) st).2.length ≤ st.2.length + l.length := by
    intro l
    induction l with
    | nil => intro st; exact Nat.le_refl _
    | cons a l ih =>
      intro st
      have h1 := ih (clS c b st a)
      have h2 : (clS c b st a).2.length ≤ st.2.length + 1 := by
        unfold clS
        split
        · dsimp only
          rw [List.length_append, List.length_singleton]
          exact Nat.le_refl _
        · omega
      show (l.foldl (clS c b) (clS c b st a)).2.length ≤ st.2.length + (l.length + 1)
      omega
  have h1 := hl (srL c b D v) (fun _ => false, [])
  have h2 : (srL c b D v).length = (rlL c b D v (c 0 1)).length := sr_len hv (Nat.le_refl _)
  have h3 := rl_len (c := c) (b := b) (D := D) (v := v) (c 0 1)
  show (clL c b (srL c b D v)).2.length ≤ c 0 1
  unfold clL
  simp only [List.length_nil] at h1
  omega
/-! one selection and its step; chains -/
abbrev ZT := ((Nat → Nat → Nat) × (Nat → Nat → Bool) × (Nat → Int64)) × (Nat → Int32)
def seZ (v : Nat) (w : ZT) : ZT := ((w.1.1, seb w.1.1 w.1.2.1 w.1.2.2 v (w.1.1 0 1), w.1.2.2), sex w.1.1 w.1.2.1 w.1.2.2 w.2 v (w.1.1 0 1))
def tkZ (v : Nat) (w : ZT) : List Nat := tkL w.1.1 w.1.2.1 w.1.2.2 v
def gZ (va : Nat → Int32) (now v : Nat) (w : ZT) : ZT := (stL va now (tkZ v w) (seZ v w).1, (seZ v w).2)
def chN (va : Nat → Int32) (now : Nat) : Nat → ZT → Bool × ZT
  | 0, w => (decide ((tkZ 0 w).length = 0), seZ 0 w)
  | n + 1, w => if (tkZ 0 w).length = 0 then (true, seZ 0 w) else chN va now n (gZ va now 0 w)
def InW (w : ZT) : Prop := Cv w.1.1 ∧ Cfg w.1.1 w.1.2.1
theorem Cfg_b {c : Nat → Nat → Nat} {b b' : Nat → Nat → Bool} (h : Cfg c b) (e : b' 0 = b 0) : Cfg c b' := by
  unfold Cfg Cf1 Cf2 Cf3 at *
  rw [e]
  exact h
theorem In_se {v : Nat} {w : ZT} (h : InW w) : InZ (seZ v w).1 (tkZ v w) := ⟨h.1, Cfg_b h.2 (se_0 (c := w.1.1) (b := w.1.2.1) (D := w.1.2.2) (v := v) (n := w.1.1 0 1)), tk_ok h.1 h.2⟩
theorem In_seW {v : Nat} {w : ZT} (h : InW w) : InW (seZ v w) := ⟨h.1, Cfg_b h.2 (se_0 (c := w.1.1) (b := w.1.2.1) (D := w.1.2.2) (v := v) (n := w.1.1 0 1))⟩
theorem In_L {va : Nat → Int32} {now : Nat} : ∀ (l : List Nat) (z), InZ z l → InZ (stL va now l z) [] := by
  intro l
  induction l with
  | nil => intro z h; exact h
  | cons e l ih => intro z h; exact ih _ (In_S h)
theorem In_g {va : Nat → Int32} {now v : Nat} {w : ZT} (h : InW w) : InW (gZ va now v w) := by
  have := In_L (va := va) (now := now) (tkZ v w) _ (In_se (v := v) h)
  exact ⟨this.1, this.2.1⟩
theorem st_r {va : Nat → Int32} {now i : Nat} (h : i ≠ 13) (h2 : i ≠ 14) : ∀ (l : List Nat) (z), (stL va now l z).1 i = z.1 i := by
  intro l
  induction l with
  | nil => intro z; rfl
  | cons e l ih =>
    intro z
    have := ih (tkC z.1 z.2.1 e now, tkB z.1 z.2.1 e, tkD z.1 z.2.1 va e z.2.2)
    exact this.trans (tkC_r h h2)
theorem g_r {va : Nat → Int32} {now v i : Nat} {w : ZT} (h : i ≠ 13) (h2 : i ≠ 14) : (gZ va now v w).1.1 i = w.1.1 i := st_r h h2 _ _
theorem DoC_c {k : Nat} {A A' : mwM} {c c' : Nat → Nat → Nat} (h : DoC k A c) (hc : ∀ i, i ≤ 12 → c' i = c i) (hA : ∀ e, A' (k + 25) e = A (k + 25) e) : DoC k A' c' := by
  unfold DoC at *
  rw [hc 0 (by omega), hc 1 (by omega), hc 2 (by omega), hc 3 (by omega), hc 4 (by omega), hc 5 (by omega)]
  intro e h1 h2 j h3 h4 h5
  rw [hA]
  exact h e h1 h2 j h3 h4 h5
def RcW (k : Nat) (A : mwM) (L : mwL) (va : Nat → Int32) (w : ZT) : Prop := ReC k A L w.1.1 w.1.2.1 va w.1.2.2 w.2 ∧ DoC k A w.1.1
def RmW (q : Nat) (M : mwM) (L : mwL) (va : Nat → Int32) (w : ZT) : Prop := ReM q M L w.1.1 w.1.2.1 va w.1.2.2 w.2
/-- the class selects -/
theorem c_selZ {fu : Nat} {A : mwM} {L : mwL} {k v : Nat} {va : Nat → Int32} {w : ZT} (hf : 402 ≤ fu) (hw : InW w) (h : RcW k A L va w) (hv : v < 2000) : wq (DX2_select fu k (sI v) A L) (fun z => z.1 = sI (tkZ v w).length ∧ z.2.2 = L ∧ RcW k z.2.1 L va (seZ v w) ∧ LiZ z.2.1 (k + 27) (tkZ v w) ∧ ∀ a y, ¬ (a = k + 15 ∨ a = k + 16 ∨ a = k + 26 ∨ a = k + 27) → ¬ (a = k ∧ y = 15) → z.2.1 a y = A a y) := by
  refine wq_mono (c_select hf hw.1 h.1 h.2 hv) ?_
  rintro ⟨r, M1, L1⟩ ⟨y1, y2, y3, y4, y5⟩
  exact ⟨y1, y2, ⟨y3, DoC_c h.2 (fun _ _ => rfl) (fun e => y5 _ _ (by omega) (by omega))⟩, y4, y5⟩
/-- the class goes on behind a selection -/
theorem c_goZ {fu : Nat} {A : mwM} {L : mwL} {k v now : Nat} {va : Nat → Int32} {w : ZT} (hf : 601 ≤ fu) (hw : InW w) (h : RcW k A L va (seZ v w)) (hR : LiZ A (k + 27) (tkZ v w)) (hnow : A k 12 = sI now) : wq (DX2_goOn fu k (sI (tkZ v w).length) A L) (fun z => RcW k z.1 z.2 va (gZ va now v w) ∧ (∀ a y, ¬ (k + 7 ≤ a ∧ a ≤ k + 17) → a ≠ k + 26 → z.1 a y = A a y) ∧ ∀ a, a ≠ k + 34 → z.2 a = L a) := by
  have hl := tk_len (b := w.1.2.1) (D := w.1.2.2) (v := v) hw.1
  have hE4 := hw.1.2.1.1
  refine wq_mono (c_goOn (now := now) hf (In_se (v := v) hw) h.1 (fun e he => ?_) hR (by unfold tkZ; omega) hnow) ?_
  · obtain ⟨h1, h2, h3⟩ := tk_mem he
    obtain ⟨j, j1, j2, j3, _⟩ := rd_src h3
    exact h.2 e h1 h2 j j1 j2 j3
  · rintro ⟨M1, L1⟩ ⟨y1, y2, y3, y4⟩
    exact ⟨⟨y2, DoC_c h.2 (fun i hi => g_r (by omega) (by omega)) (fun e => y3 _ _ (by omega) (by omega))⟩, y3, y4⟩
theorem c_chain {fu : Nat} {A : mwM} {L : mwL} {k now : Nat} {va : Nat → Int32} {w : ZT} (hf : 601 ≤ fu) (hw : InW w) (h : RcW k A L va w) (hnow : A k 12 = sI now) : wq (DX2_chain fu k A L) (fun z => z.1 = bI (chN va now (w.1.1 0 3) w).1 ∧ RcW k z.2.1 z.2.2 va (chN va now (w.1.1 0 3) w).2 ∧ InW (chN va now (w.1.1 0 3) w).2 ∧ (∀ a y, ¬ (k + 7 ≤ a ∧ a ≤ k + 17) → a ≠ k + 26 → a ≠ k + 27 → ¬ (a = k ∧ y = 15) → z.2.1 a y = A a y) ∧ ∀ a, a ≠ k + 34 → z.2.2 a = L a) := by
  have hl := hw.1.2.2.2.1
  generalize hQ : (fun z : Int32 × mwM × mwL => z.1 = bI (chN va now (w.1.1 0 3) w).1 ∧ RcW k z.2.1 z.2.2 va (chN va now (w.1.1 0 3) w).2 ∧ InW (chN va now (w.1.1 0 3) w).2 ∧ (∀ a y, ¬ (k + 7 ≤ a ∧ a ≤ k + 17) → a ≠ k + 26 → a ≠ k + 27 → ¬ (a = k ∧ y = 15) → z.2.1 a y = A a y) ∧ ∀ a, a ≠ k + 34 → z.2.2 a = L a) = Q
  have key : ∀ (n i f : Nat) (u : ZT) (a : mwM) (l : mwL), i + n = w.1.1 0 3 → n < f → InW u → RcW k a l va u → u.1.1 0 3 = w.1.1 0 3 → chN va now n u = chN va now (w.1.1 0 3) w → (∀ b y, ¬ (k + 7 ≤ b ∧ b ≤ k + 17) → b ≠ k + 26 → b ≠ k + 27 → ¬ (b = k ∧ y = 15) → a b y = A b y) → (∀ b, b ≠ k + 34 → l b = L b) → wq (fX2_chain_h2 fu k f (sI i, a, l)) Q := by
    intro n
    induction n with
    | zero =>
      intro i f u a l hi hf1 hu hr hlim hch p1 p2
      obtain ⟨g, rfl⟩ : ∃ g, f = g + 1 := ⟨f - 1, by omega⟩
      unfold fX2_chain_h2
      rw [mloop_S]
      show wq (fX2_chain_i2 fu k (fX2_chain_h2 fu k g) (sI i) a l) Q
      unfold fX2_chain_i2 fX2_chain_b46
      rw [hr.1.2.2.2.1.1, hlim, if_pos (by rw [sI_le (by omega) (by omega)]; omega)]
      have hl2 := tk_len (b := u.1.2.1) (D := u.1.2.2) (v := 0) hu.1
      have hE4 := hu.1.2.1.1
      refine wq_b3 (c_selZ (v := 0) (by omega) hu hr (by omega)) ?_
      rintro r1 M1 L1 ⟨y1, y2, y3, y4, y5⟩
      dsimp only at y1 y2 y3 y4 y5
      subst y1 y2
      have e0 : chN va now 0 u = (decide ((tkZ 0 u).length = 0), seZ 0 u) := rfl
      rw [e0] at hch
      have fin : ∀ v : Int32, v = bI (decide ((tkZ 0 u).length = 0)) → wq (mzz v (some (v, M1, L1))) Q := by
        intro v hv
        rw [← hQ, ← hch]
        rw [hv]
        refine wq_zz bI_z (wq_some ⟨rfl, y3, In_seW hu, fun b y u1 u2 u3 u4 => ?_, p2⟩)
        exact (y5 b y (by omega) u4).trans (p1 b y u1 u2 u3 u4)
      have hlz : (tkZ 0 u).length ≤ 400 := by unfold tkZ; omega
      by_cases hz : (tkZ 0 u).length = 0
      · rw [if_pos (by rw [hz]; rfl)]
        exact fin 1 (by rw [decide_eq_true hz]; rfl)
      · rw [if_neg (by rw [sI_eql (by omega) (by decide)]; exact hz)]
        exact fin 0 (by rw [decide_eq_false hz]; rfl)
    | succ n ih =>
      intro i f u a l hi hf1 hu hr hlim hch p1 p2
      obtain ⟨g, rfl⟩ : ∃ g, f = g + 1 := ⟨f - 1, by omega⟩
      unfold fX2_chain_h2
      rw [mloop_S]
      show wq (fX2_chain_i2 fu k (fX2_chain_h2 fu k g) (sI i) a l) Q
      unfold fX2_chain_i2
      rw [hr.1.2.2.2.1.1, hlim, if_neg (by rw [sI_le (by omega) (by omega)]; omega)]
      have hl2 := tk_len (b := u.1.2.1) (D := u.1.2.2) (v := 0) hu.1
      have hE4 := hu.1.2.1.1
      refine wq_b3 (c_selZ (v := 0) (by omega) hu hr (by omega)) ?_
      rintro r1 M1 L1 ⟨y1, y2, y3, y4, y5⟩
      dsimp only at y1 y2 y3 y4 y5
      subst y1 y2
      have e0 : chN va now (n + 1) u = if (tkZ 0 u).length = 0 then (true, seZ 0 u) else chN va now n (gZ va now 0 u) := rfl
      rw [e0] at hch
      have hlz : (tkZ 0 u).length ≤ 400 := by unfold tkZ; omega
      by_cases hz : (tkZ 0 u).length = 0
      · rw [if_pos (by rw [hz]; rfl)]
        rw [if_pos hz] at hch
        rw [← hQ, ← hch]
        refine wq_some ⟨rfl, y3, In_seW hu, fun b y u1 u2 u3 u4 => ?_, p2⟩
        exact (y5 b y (by omega) u4).trans (p1 b y u1 u2 u3 u4)
      · rw [if_neg (by rw [sI_eql (by omega) (by decide)]; exact hz)]
        rw [if_neg hz] at hch
        refine wq_b2 (c_goZ (now := now) hf hu y3 y4 ?_) ?_
        · rw [y5 _ _ (by omega) (by omega), p1 _ _ (by omega) (by omega) (by omega) (by omega)]; exact hnow
        rintro M2 L2 ⟨z1, z2, z3⟩
        dsimp only at z1 z2 z3
        simp only [mlet]
        rw [sI_1]
        refine ih (i + 1) g (gZ va now 0 u) M2 L2 (by omega) (by omega) (In_g hu) z1 ?_ hch (fun b y u1 u2 u3 u4 => ?_) (fun b u => (z3 b u).trans (p2 b u))
        · rw [g_r (by omega) (by omega)]; exact hlim
        · rw [z2 _ _ u1 u2, y5 _ _ (by omega) u4]; exact p1 b y u1 u2 u3 u4
  unfold DX2_chain
  exact key (w.1.1 0 3) 0 fu w A L (by omega) (by omega) hw h rfl rfl (fun _ _ _ _ _ _ => rfl) (fun _ _ => rfl)
/-! chains of the reference -/
theorem m_selZ {fu : Nat} {M : mwM} {L : mwL} {q v : Nat} {va : Nat → Int32} {w : ZT} (hf : 402 ≤ fu) (hw : InW w) (h : RmW q M L va w) (hv : v < 2000) : wq (DX13_choose fu q (sI v) M L) (fun z => z.1 = sI (tkZ v w).length ∧ z.2.2 = L ∧ RmW q z.2.1 L va (seZ v w) ∧ LiZ z.2.1 (q + 24) (tkZ v w) ∧ z.2.1 q 35 = sI (tkZ v w).length ∧ ∀ a y, ¬ (q ≤ a ∧ a ≤ q + 29) → z.2.1 a y = M a y) := m_chooseC hf hw.1 h hv
theorem tkZ_len {v : Nat} {w : ZT} (hw : InW w) : (tkZ v w).length ≤ 400 := by
  have h1 := tk_len (b := w.1.2.1) (D := w.1.2.2) (v := v) hw.1
  have h2 := hw.1.2.1.1
  unfold tkZ
  omega
theorem m_stepZ {fu : Nat} {M : mwM} {L : mwL} {q v now : Nat} {va : Nat → Int32} {w : ZT} (hf : 601 ≤ fu) (hw : InW w) (h : RmW q M L va (seZ v w)) (hR : LiZ M (q + 24) (tkZ v w)) (hR2 : M q 35 = sI (tkZ v w).length) : wq (DX13_step fu q (sL now) M L) (fun z => z.1 = sI (tkZ v w).length ∧ RmW q z.2.1 z.2.2 va (gZ va now v w) ∧ (∀ a y, ¬ (q ≤ a ∧ a ≤ q + 29) → z.2.1 a y = M a y) ∧ ∀ a, a ≠ q + 6 → a ≠ q + 21 → z.2.2 a = L a) := by
  refine wq_mono (m_stepC (now := now) hf (In_se (v := v) hw) h hR hR2 (tkZ_len hw)) ?_
  rintro ⟨r, M1, L1⟩ ⟨y1, y2, y3, y4, y5⟩
  exact ⟨y1, y3, y4, y5⟩
theorem m_chain {fu : Nat} {M : mwM} {L : mwL} {q now : Nat} {va : Nat → Int32} {w : ZT} (hf : 601 ≤ fu) (hw : InW w) (h : RmW q M L va w) : wq (DX13_chain fu q (sL now) M L) (fun z => (if (chN va now (w.1.1 0 3) w).1 = true then ∃ m, m ≤ 20000 ∧ z.1 = sI m else z.1 = -1) ∧ RmW q z.2.1 z.2.2 va (chN va now (w.1.1 0 3) w).2 ∧ (∀ a y, ¬ (q ≤ a ∧ a ≤ q + 29) → z.2.1 a y = M a y) ∧ ∀ a, a ≠ q + 6 → a ≠ q + 21 → z.2.2 a = L a) := by
  have hl := hw.1.2.2.2.1
  generalize hQ : (fun z : Int32 × mwM × mwL => (if (chN va now (w.1.1 0 3) w).1 = true then ∃ m, m ≤ 20000 ∧ z.1 = sI m else z.1 = -1) ∧ RmW q z.2.1 z.2.2 va (chN va now (w.1.1 0 3) w).2 ∧ (∀ a y, ¬ (q ≤ a ∧ a ≤ q + 29) → z.2.1 a y = M a y) ∧ ∀ a, a ≠ q + 6 → a ≠ q + 21 → z.2.2 a = L a) = Q
  have key : ∀ (n i m f : Nat) (u : ZT) (a : mwM) (l : mwL), i + n = w.1.1 0 3 → m ≤ 400 * i → n < f → InW u → RmW q a l va u → u.1.1 0 3 = w.1.1 0 3 → chN va now n u = chN va now (w.1.1 0 3) w → (∀ b y, ¬ (q ≤ b ∧ b ≤ q + 29) → a b y = M b y) → (∀ b, b ≠ q + 6 → b ≠ q + 21 → l b = L b) → wq (fX13_chain_h5 fu q (sL now) f (sI m, sI i, a, l)) Q := by
    intro n
    induction n with
    | zero =>
      intro i m f u a l hi hm hf1 hu hr hlim hch p1 p2
      obtain ⟨g, rfl⟩ : ∃ g, f = g + 1 := ⟨f - 1, by omega⟩
      unfold fX13_chain_h5
      rw [mloop_S]
      show wq (fX13_chain_i5 fu q (sL now) (fX13_chain_h5 fu q (sL now) g) (sI m) (sI i) a l) Q
      unfold fX13_chain_i5
      refine wq_b3 (m_selZ (v := 0) (by omega) hu hr (by omega)) ?_
      rintro r1 M1 L1 ⟨y1, y2, y3, y4, y6, y5⟩
      dsimp only at y1 y2 y3 y4 y5 y6
      subst y1 y2
      have e0 : chN va now 0 u = (decide ((tkZ 0 u).length = 0), seZ 0 u) := rfl
      rw [e0] at hch
      have hlz := tkZ_len (v := 0) hu
      have e1 : M1 q 1 = sI (w.1.1 0 3) := by
        have : M1 q 1 = sI ((seZ 0 u).1.1 0 3) := y3.2.2.2.1.1
        rw [this]
        congr 1
      by_cases hz : (tkZ 0 u).length = 0
      · rw [if_pos (by rw [hz]; decide)]
        rw [← hQ, ← hch]
        refine wq_some ⟨?_, y3, fun b y u1 => (y5 b y u1).trans (p1 b y u1), p2⟩
        dsimp only
        rw [if_pos (decide_eq_true hz)]
        exact ⟨m, by omega, rfl⟩
      · rw [if_neg (by rw [sI_lel (by omega) (by decide)]; omega), e1, if_pos (by rw [show i = w.1.1 0 3 by omega])]
        obtain ⟨rw1, k5, k6⟩ := y3.2.2.2.1.2.2.2.2.2.2
        refine wq_b2 (m_note (rw' := rw1) k6 k5) ?_
        rintro M2 L2 ⟨z1, ⟨rw2, z3, z4⟩, z2⟩
        dsimp only at z1 z2 z4
        subst z1
        rw [← hQ, ← hch]
        refine wq_some ⟨?_, ?_, fun b y u1 => ?_, p2⟩
        all_goals (try dsimp only)
        · rw [if_neg (by simp [hz])]
        · obtain ⟨j1, j2, j3, j4, j5, j6, j7, j8⟩ := y3
          refine ⟨TrM_f j1 (z2 _ _ (by omega) (by omega)) (fun a s u1 u2 => z2 _ _ (by omega) (by omega)), ?_, ?_, ?_, ?_, ?_, ?_, ?_⟩
          · refine ⟨?_, fun e u1 u2 => ?_⟩
            · simp (disch := omega) only [z2]; exact j2.1
            · simp (disch := omega) only [z2]; exact j2.2 e u1 u2
          · refine ⟨?_, fun i hi => ?_⟩
            · simp (disch := omega) only [z2]; exact j3.1
            · simp (disch := omega) only [z2]; exact j3.2 i hi
          · simp (disch := omega) only [z2]
            exact ⟨j4.1, j4.2.1, j4.2.2.1, j4.2.2.2.1, j4.2.2.2.2.1, j4.2.2.2.2.2.1, ⟨rw2, z3, z4⟩⟩
          · intro s hs
            simp (disch := omega) only [z2]; exact j5 s hs
          · intro s u1 hs
            simp (disch := omega) only [z2]; exact j6 s u1 hs
          · simp (disch := omega) only [z2]; exact j7
          · intro e u1 u2
            simp (disch := omega) only [z2]; exact j8 e u1 u2
        · rw [z2 _ _ (by omega) (by omega), y5 b y u1]; exact p1 b y u1
    | succ n ih =>
      intro i m f u a l hi hm hf1 hu hr hlim hch p1 p2
      obtain ⟨g, rfl⟩ : ∃ g, f = g + 1 := ⟨f - 1, by omega⟩
      unfold fX13_chain_h5
      rw [mloop_S]
      show wq (fX13_chain_i5 fu q (sL now) (fX13_chain_h5 fu q (sL now) g) (sI m) (sI i) a l) Q
      unfold fX13_chain_i5
      refine wq_b3 (m_selZ (v := 0) (by omega) hu hr (by omega)) ?_
      rintro r1 M1 L1 ⟨y1, y2, y3, y4, y6, y5⟩
      dsimp only at y1 y2 y3 y4 y5 y6
      subst y1 y2
      have e0 : chN va now (n + 1) u = if (tkZ 0 u).length = 0 then (true, seZ 0 u) else chN va now n (gZ va now 0 u) := rfl
      rw [e0] at hch
      have hlz := tkZ_len (v := 0) hu
      have e1 : M1 q 1 = sI (w.1.1 0 3) := by
        have : M1 q 1 = sI ((seZ 0 u).1.1 0 3) := y3.2.2.2.1.1
        rw [this]
        congr 1
      by_cases hz : (tkZ 0 u).length = 0
      · rw [if_pos (by rw [hz]; decide)]
        rw [if_pos hz] at hch
        rw [← hQ, ← hch]
        refine wq_some ⟨?_, y3, fun b y u1 => (y5 b y u1).trans (p1 b y u1), p2⟩
        dsimp only
        rw [if_pos rfl]
        exact ⟨m, by omega, rfl⟩
      · rw [if_neg (by rw [sI_lel (by omega) (by decide)]; omega), e1, if_neg (by rw [sI_eq (by omega) (by omega)]; omega)]
        rw [if_neg hz] at hch
        refine wq_b3 (m_stepZ (now := now) hf hu y3 y4 y6) ?_
        rintro r2 M2 L2 ⟨z1, z2, z3, z4⟩
        dsimp only at z1 z2 z3 z4
        subst z1
        simp only [mlet]
        rw [sI_1, sI_add]
        refine ih (i + 1) (m + (tkZ 0 u).length) g (gZ va now 0 u) M2 L2 (by omega) (by omega) (by omega) (In_g hu) z2 ?_ hch (fun b y u1 => ?_) (fun b u1 u2 => (z4 b u1 u2).trans (p2 b u1 u2))
        · rw [g_r (by omega) (by omega)]; exact hlim
        · rw [z3 _ _ u1, y5 _ _ u1]; exact p1 b y u1
  unfold DX13_chain
  exact key (w.1.1 0 3) 0 0 fu w M L (by omega) (by omega) (by omega) hw h rfl rfl (fun _ _ _ => rfl) (fun _ _ _ => rfl)
/-! who speaks next -/
def duC (c : Nat → Nat → Nat) (b : Nat → Nat → Bool) (t s : Nat) : Bool := decide (0 < c 12 s) && (b 0 s && (!b 1 s && decide (c 14 s + c 12 s ≤ t)))
def duN (c : Nat → Nat → Nat) (b : Nat → Nat → Bool) (t : Nat) : Nat → Nat
  | 0 => 0
  | i + 1 => if duC c b t (i + 1) = true ∧ (duN c b t i = 0 ∨ c 14 (i + 1) + c 12 (i + 1) < c 14 (duN c b t i) + c 12 (duN c b t i)) then i + 1 else duN c b t i
theorem du_le {c : Nat → Nat → Nat} {b : Nat → Nat → Bool} {t : Nat} : ∀ i, duN c b t i ≤ i ∧ (duN c b t i ≠ 0 → duC c b t (duN c b t i) = true) := by
  intro i
  induction i with
  | zero => exact ⟨Nat.le_refl _, fun h => absurd rfl h⟩
  | succ i ih =>
    have e : duN c b t (i + 1) = if duC c b t (i + 1) = true ∧ (duN c b t i = 0 ∨ c 14 (i + 1) + c 12 (i + 1) < c 14 (duN c b t i) + c 12 (duN c b t i)) then i + 1 else duN c b t i := rfl
    rw [e]
    split
    · rename_i h
      exact ⟨Nat.le_refl _, fun _ => h.1⟩
    · exact ⟨by omega, ih.2⟩
def S14 (c : Nat → Nat → Nat) : Prop := ∀ s, s ≤ c 0 0 → c 14 s ≤ 20000
theorem c_nextToSpeak {fu : Nat} {A : mwM} {L : mwL} {k t : Nat} {c : Nat → Nat → Nat} {b : Nat → Nat → Bool} {va : Nat → Int32} {D : Nat → Int64} {x : Nat → Int32} (hf : 202 ≤ fu) (hv : Cv c) (hS : S14 c) (h : ReC k A L c b va D x) (ht : t ≤ 20000) : DX2_nextToSpeak fu k (sI t) A L = some (sI (duN c b t (c 0 0)), A, L) := by
  have hN := hv.1.1
  have hk := hv.2.2.2.2.2.1
  unfold DX2_nextToSpeak
  simp only [mlet]
  rw [sI_1]
  have hh := wq_for (body := fun r z => fX2_nextToSpeak_i9 fu k (sI t) r z.1 z.2.1 z.2.2.1 z.2.2.2.1 z.2.2.2.2) (Q := fun z => z = (sI (duN c b t (c 0 0)), A, L)) (fun i (_ : Unit) => (sI (duN c b t (i - 1)), sI (if duN c b t (i - 1) = 0 then t + 1 else c 14 (duN c b t (i - 1)) + c 12 (duN c b t (i - 1))), sI i, A, L)) (fun i _ => 1 ≤ i) (c 0 0 + 1) ?_ ?_ (c 0 0) 1 () fu (by omega) (by omega) (Nat.le_refl _)
  · obtain ⟨z, hz, rfl⟩ := hh
    exact hz
  · intro i _ r hi hi1 ih
    obtain ⟨n, rfl⟩ : ∃ n, i = n + 1 := ⟨i - 1, by omega⟩
    have ih2 := ih () (by omega)
    simp only [show n + 1 + 1 - 1 = n + 1 from rfl] at ih2
    show wq (fX2_nextToSpeak_i9 fu k (sI t) r (sI (duN c b t n)) (sI (if duN c b t n = 0 then t + 1 else c 14 (duN c b t n) + c 12 (duN c b t n))) (sI (n + 1)) A L) _
    have e5 := (h.2.2.2.2.1 (n + 1) (by omega)).1
    obtain ⟨e7, e10, e11, _⟩ := h.2.2.2.2.2.1 (n + 1) (by omega) (by omega)
    have s1 := hS (n + 1) (by omega)
    have s2 := hk (n + 1) (by omega)
    have hdu := du_le (c := c) (b := b) (t := t) n
    have hdl : (if duN c b t n = 0 then t + 1 else c 14 (duN c b t n) + c 12 (duN c b t n)) ≤ 40001 := by
      split
      · omega
      · have := hS (duN c b t n) (by omega)
        have := hk (duN c b t n) (by omega)
        omega
    have eN : duN c b t (n + 1) = if duC c b t (n + 1) = true ∧ (duN c b t n = 0 ∨ c 14 (n + 1) + c 12 (n + 1) < c 14 (duN c b t n) + c 12 (duN c b t n)) then n + 1 else duN c b t n := rfl
    have no : ¬ (duC c b t (n + 1) = true ∧ (duN c b t n = 0 ∨ c 14 (n + 1) + c 12 (n + 1) < c 14 (duN c b t n) + c 12 (duN c b t n))) → wq (r (sI (duN c b t n), sI (if duN c b t n = 0 then t + 1 else c 14 (duN c b t n) + c 12 (duN c b t n)), sI (n + 1 + 1), A, L)) (fun z => z = (sI (duN c b t (c 0 0)), A, L)) := by
      intro hno
      rw [eN, if_neg hno] at ih2
      exact ih2
    unfold fX2_nextToSpeak_i9 fX2_nextToSpeak_b104
    simp (disch := omega) only [h.1.1, e5, e7, e10, e11, sI_add, mck_s, sI_nn, nn_s, sI_lt, sI_le, sI_eq, sI_ltl, sI_lel, sI_eql, sI_llt, sI_lle, sI_1, bI_0, bI_1, bI_n, mlet, mb3_s, mb2_s]
    rw [if_neg (by omega)]
    unfold duC at no eN
    by_cases h1 : c 12 (n + 1) ≤ 0
    · rw [if_pos h1]
      exact no (fun z => by rw [decide_eq_false (show ¬ 0 < c 12 (n + 1) by omega)] at z; cases z.1)
    rw [if_neg h1]
    rw [decide_eq_true (show 0 < c 12 (n + 1) by omega), Bool.true_and] at no eN
    cases h2 : b 0 (n + 1) with
    | false =>
      rw [if_neg (by decide)]
      exact no (fun z => by rw [h2] at z; cases z.1)
    | true =>
      rw [if_pos rfl]
      rw [h2, Bool.true_and] at no eN
      cases h3 : b 1 (n + 1) with
      | true =>
        rw [if_neg (by decide)]
        exact no (fun z => by rw [h3] at z; cases z.1)
      | false =>
        rw [if_pos rfl]
        rw [h3] at no eN
        by_cases h4 : (if duN c b t n = 0 then t + 1 else c 14 (duN c b t n) + c 12 (duN c b t n)) ≤ c 14 (n + 1) + c 12 (n + 1)
        · rw [if_pos h4]
          refine no ?_
          rintro ⟨z1, z2⟩
          simp only [Bool.not_false, Bool.true_and, decide_eq_true_eq] at z1
          by_cases hz : duN c b t n = 0
          · rw [if_pos hz] at h4; omega
          · rw [if_neg hz] at h4
            rcases z2 with w | w
            · exact hz w
            · omega
        · rw [if_neg h4]
          have yes : (!false && decide (c 14 (n + 1) + c 12 (n + 1) ≤ t)) = true ∧ (duN c b t n = 0 ∨ c 14 (n + 1) + c 12 (n + 1) < c 14 (duN c b t n) + c 12 (duN c b t n)) := by
            by_cases hz : duN c b t n = 0
            · rw [if_pos hz] at h4
              exact ⟨by rw [decide_eq_true (show c 14 (n + 1) + c 12 (n + 1) ≤ t by omega)]; rfl, Or.inl hz⟩
            · rw [if_neg hz] at h4
              have hc := hdu.2 hz
              unfold duC at hc
              simp only [Bool.and_eq_true, decide_eq_true_eq] at hc
              exact ⟨by rw [decide_eq_true (show c 14 (n + 1) + c 12 (n + 1) ≤ t by omega)]; rfl, Or.inr (by omega)⟩
          rw [if_pos yes] at eN
          rw [eN, if_neg (show ¬ n + 1 = 0 by omega)] at ih2
          exact ih2
  · intro _ r _
    show wq (fX2_nextToSpeak_i9 fu k (sI t) r (sI (duN c b t (c 0 0))) _ (sI (c 0 0 + 1)) A L) _
    unfold fX2_nextToSpeak_i9
    rw [h.1.1, if_pos (by rw [sI_lt (by omega) (by omega)]; omega)]
    exact wq_some rfl
theorem m_due {fu : Nat} {M : mwM} {L : mwL} {q t : Nat} {c : Nat → Nat → Nat} {b : Nat → Nat → Bool} {va : Nat → Int32} {D : Nat → Int64} {x : Nat → Int32} (hf : 202 ≤ fu) (hv : Cv c) (hS : S14 c) (h : ReM q M L c b va D x) (ht : t ≤ 20000) : DX13_due fu q (sL t) M L = some (sI (duN c b t (c 0 0)), M, L) := by
  have hN := hv.1.1
  have hk := hv.2.2.2.2.2.1
  unfold DX13_due
  have hh := wq_for (body := fun r z => fX13_due_i5 fu q (sL t) r z.1 z.2.1 z.2.2.1 z.2.2.2) (Q := fun z => z = (sI (duN c b t (c 0 0)), M, L)) (fun i (_ : Unit) => (sI (duN c b t (i - 1)), sI i, M, L)) (fun i _ => 1 ≤ i) (c 0 0 + 1) ?_ ?_ (c 0 0) 1 () fu (by omega) (by omega) (Nat.le_refl _)
  · obtain ⟨z, hz, rfl⟩ := hh
    exact hz
  · intro i _ r hi hi1 ih
    obtain ⟨n, rfl⟩ : ∃ n, i = n + 1 := ⟨i - 1, by omega⟩
    have ih2 := ih () (by omega)
    simp only [show n + 1 + 1 - 1 = n + 1 from rfl] at ih2
    show wq (fX13_due_i5 fu q (sL t) r (sI (duN c b t n)) (sI (n + 1)) M L) _
    have e5 := (h.2.2.2.2.1 (n + 1) (by omega)).1
    obtain ⟨e9, e6, e7, _⟩ := h.2.2.2.2.2.1 (n + 1) (by omega) (by omega)
    have s1 := hS (n + 1) (by omega)
    have s2 := hk (n + 1) (by omega)
    have hdu := du_le (c := c) (b := b) (t := t) n
    have eN : duN c b t (n + 1) = if duC c b t (n + 1) = true ∧ (duN c b t n = 0 ∨ c 14 (n + 1) + c 12 (n + 1) < c 14 (duN c b t n) + c 12 (duN c b t n)) then n + 1 else duN c b t n := rfl
    have b71 : ∀ g : Bool, duC c b t (n + 1) = g → wq (fX13_due_b71 fu q (sL t) r (sI (duN c b t n)) (sI (n + 1)) (bI g) M L) (fun z => z = (sI (duN c b t (c 0 0)), M, L)) := by
      intro g hg
      rw [hg] at eN
      unfold fX13_due_b71 fX13_due_b119 fX13_due_b114 fX13_due_b120
      cases g with
      | false =>
        rw [if_pos bI_f]
        rw [if_neg (fun z => by cases z.1)] at eN
        rw [eN] at ih2
        simp only [mlet]
        rw [sI_1]
        exact ih2
      | true =>
        rw [if_neg (by decide)]
        by_cases hz : duN c b t n = 0
        · rw [if_pos (by rw [hz]; rfl)]
          rw [if_pos ⟨rfl, Or.inl hz⟩] at eN
          rw [eN] at ih2
          simp only [mlet]
          rw [sI_1]
          exact ih2
        · rw [if_neg (by rw [sI_eql (by omega) (by decide)]; exact hz)]
          have f5 := (h.2.2.2.2.1 (duN c b t n) (by omega)).1
          obtain ⟨_, f6, _⟩ := h.2.2.2.2.2.1 (duN c b t n) (by omega) (by omega)
          have s3 := hS (duN c b t n) (by omega)
          have s4 := hk (duN c b t n) (by omega)
          simp (disch := omega) only [e5, e6, f5, f6, sL_add, mck_s, sI_nn, nn_s, sI_lt, sI_le, sI_eq, sI_ltl, sI_lel, sI_eql, sI_llt, sI_lle, sI_1, bI_0, bI_1, bI_n, mlet, mb3_s, mb2_s]
          by_cases hlt : c 14 (n + 1) + c 12 (n + 1) < c 14 (duN c b t n) + c 12 (duN c b t n)
          · rw [if_neg (fun z => by
              have := (lg_cmp_ge _ _).mp z
              rw [sL_le (by omega) (by omega)] at this
              omega)]
            rw [if_pos ⟨rfl, Or.inr hlt⟩] at eN
            rw [eN] at ih2
            exact ih2
          · rw [if_pos ((lg_cmp_ge _ _).mpr (by rw [sL_le (by omega) (by omega)]; omega))]
            rw [if_neg (fun z => by rcases z.2 with w | w; exact hz w; exact hlt w)] at eN
            rw [eN] at ih2
            exact ih2
    unfold fX13_due_i5 fX13_due_b70
    simp (disch := omega) only [h.1.1, e5, e9, e6, e7, sL_add, mck_s, sI_nn, nn_s, sI_lt, sI_le, sI_eq, sI_ltl, sI_lel, sI_eql, sI_llt, sI_lle, sI_1, bI_0, bI_1, bI_n, mlet, mb3_s, mb2_s]
    rw [if_neg (by omega)]
    unfold duC at b71
    cases h2 : b 0 (n + 1) with
    | false =>
      rw [if_pos rfl]
      exact b71 false (by rw [h2]; simp)
    | true =>
      rw [if_neg (by decide)]
      by_cases h1 : c 12 (n + 1) ≤ 0
      · rw [if_pos ((lg_cmp_le _ _).mpr (by rw [show (0 : Int64) = sL 0 from rfl, sL_le (by omega) (by omega)]; omega))]
        exact b71 false (by rw [decide_eq_false (show ¬ 0 < c 12 (n + 1) by omega)]; rfl)
      · rw [if_neg (fun z => by
          have := (lg_cmp_le _ _).mp z
          rw [show (0 : Int64) = sL 0 from rfl, sL_le (by omega) (by omega)] at this
          omega)]
        cases h3 : b 1 (n + 1) with
        | true =>
          rw [if_neg (by decide)]
          exact b71 false (by rw [h3]; simp)
        | false =>
          rw [if_pos rfl]
          by_cases h4 : c 14 (n + 1) + c 12 (n + 1) ≤ t
          · rw [if_neg (fun z => by
              have := (lg_cmp_gt _ _).mp z
              rw [sL_lt (by omega) (by omega)] at this
              omega)]
            exact b71 true (by rw [h2, h3, decide_eq_true h4, decide_eq_true (show 0 < c 12 (n + 1) by omega)]; rfl)
          · rw [if_pos ((lg_cmp_gt _ _).mpr (by rw [sL_lt (by omega) (by omega)]; omega))]
            exact b71 false (by rw [decide_eq_false h4]; simp)
  · intro _ r _
    show wq (fX13_due_i5 fu q (sL t) r (sI (duN c b t (c 0 0))) (sI (c 0 0 + 1)) M L) _
    unfold fX13_due_i5
    rw [h.1.1, if_pos (by rw [sI_lt (by omega) (by omega)]; omega)]
    exact wq_some rfl
/-! an event happens: what comes of it -/
def spZ (s : Nat) (w : ZT) : ZT := ((w.1.1, (fun r j => if r = 1 ∧ j = s then true else w.1.2.1 r j), w.1.2.2), w.2)
def duZ (t : Nat) (w : ZT) : Nat := duN w.1.1 w.1.2.1 t (w.1.1 0 0)
def atZ (t : Nat) (w : ZT) : Nat := w.1.1 14 (duZ t w) + w.1.1 12 (duZ t w)
def sp1 (va : Nat → Int32) (t : Nat) (w : ZT) : ZT := gZ va (atZ t w) (1000 + duZ t w) (spZ (duZ t w) w)
def sp2 (va : Nat → Int32) (t : Nat) (w : ZT) : Bool × ZT := chN va (atZ t w) (w.1.1 0 3) (sp1 va t w)
def spL (va : Nat → Int32) (t : Nat) : Nat → ZT → Bool × ZT
  | 0, w => (decide (duZ t w = 0), w)
  | n + 1, w => if duZ t w = 0 then (true, w) else if (sp2 va t w).1 = true then spL va t n (sp2 va t w).2 else (false, (sp2 va t w).2)
theorem S14_tk {c : Nat → Nat → Nat} {b : Nat → Nat → Bool} {e now : Nat} (h : S14 c) (hn : now ≤ 20000) : S14 (tkC c b e now) := by
  intro s hs
  rw [tkC_r (by omega) (by omega)] at hs
  unfold tkC ent
  split
  · exact hn
  · rw [tk2_r (by omega)]; exact h s hs
theorem S14_st {va : Nat → Int32} {now : Nat} (hn : now ≤ 20000) : ∀ (l : List Nat) (z), S14 z.1 → S14 (stL va now l z).1 := by
  intro l
  induction l with
  | nil => intro z h; exact h
  | cons e l ih => intro z h; exact ih _ (S14_tk h hn)
theorem S14_g {va : Nat → Int32} {now v : Nat} {w : ZT} (h : S14 w.1.1) (hn : now ≤ 20000) : S14 (gZ va now v w).1.1 := S14_st hn _ _ h
theorem ch_In {va : Nat → Int32} {now : Nat} (hn : now ≤ 20000) : ∀ n w, InW w → S14 w.1.1 → InW (chN va now n w).2 ∧ S14 (chN va now n w).2.1.1 := by
  intro n
  induction n with
  | zero => intro w h h2; exact ⟨In_seW h, h2⟩
  | succ n ih =>
    intro w h h2
    have e0 : chN va now (n + 1) w = if (tkZ 0 w).length = 0 then (true, seZ 0 w) else chN va now n (gZ va now 0 w) := rfl
    rw [e0]
    split
    · exact ⟨In_seW h, h2⟩
    · exact ih _ (In_g h) (S14_g h2 hn)
theorem ch_r {va : Nat → Int32} {now i : Nat} (h : i ≠ 13) (h2 : i ≠ 14) : ∀ n w, (chN va now n w).2.1.1 i = w.1.1 i := by
  intro n
  induction n with
  | zero => intro w; rfl
  | succ n ih =>
    intro w
    have e0 : chN va now (n + 1) w = if (tkZ 0 w).length = 0 then (true, seZ 0 w) else chN va now n (gZ va now 0 w) := rfl
    rw [e0]
    split
    · rfl
    · rw [ih]; exact g_r h h2
theorem sp_In {s : Nat} {w : ZT} (h : InW w) : InW (spZ s w) := by
  refine ⟨h.1, Cfg_b h.2 ?_⟩
  funext j
  show (if (0 : Nat) = 1 ∧ j = s then true else w.1.2.1 0 j) = w.1.2.1 0 j
  rw [if_neg (by omega)]
theorem du_ok {t : Nat} {w : ZT} (h : duZ t w ≠ 0) : duZ t w ≤ w.1.1 0 0 ∧ atZ t w ≤ t := by
  have := du_le (c := w.1.1) (b := w.1.2.1) (t := t) (w.1.1 0 0)
  have h2 := this.2 h
  unfold duC at h2
  simp only [Bool.and_eq_true, decide_eq_true_eq] at h2
  exact ⟨this.1, h2.2.2.2⟩
theorem sp1_In {va : Nat → Int32} {t : Nat} {w : ZT} (h : InW w) (hS : S14 w.1.1) (ht : t ≤ 20000) (hd : duZ t w ≠ 0) : InW (sp1 va t w) ∧ S14 (sp1 va t w).1.1 := by
  have := du_ok hd
  exact ⟨In_g (sp_In h), S14_g (w := spZ (duZ t w) w) hS (by omega)⟩
theorem sp2_In {va : Nat → Int32} {t : Nat} {w : ZT} (h : InW w) (hS : S14 w.1.1) (ht : t ≤ 20000) (hd : duZ t w ≠ 0) : InW (sp2 va t w).2 ∧ S14 (sp2 va t w).2.1.1 := by
  have := du_ok hd
  have h1 := sp1_In (va := va) h hS ht hd
  exact ch_In (by omega) _ _ h1.1 h1.2
theorem sp2_r {va : Nat → Int32} {t i : Nat} {w : ZT} (h : i ≠ 13) (h2 : i ≠ 14) : (sp2 va t w).2.1.1 i = w.1.1 i := by
  have h1 : (sp1 va t w).1.1 i = w.1.1 i := g_r (w := spZ (duZ t w) w) h h2
  unfold sp2
  rw [ch_r h h2]
  exact h1
theorem spL_In {va : Nat → Int32} {t : Nat} (ht : t ≤ 20000) : ∀ n w, InW w → S14 w.1.1 → InW (spL va t n w).2 ∧ S14 (spL va t n w).2.1.1 := by
  intro n
  induction n with
  | zero => intro w h h2; exact ⟨h, h2⟩
  | succ n ih =>
    intro w h h2
    have e0 : spL va t (n + 1) w = if duZ t w = 0 then (true, w) else if (sp2 va t w).1 = true then spL va t n (sp2 va t w).2 else (false, (sp2 va t w).2) := rfl
    rw [e0]
    by_cases hd : duZ t w = 0
    · rw [if_pos hd]; exact ⟨h, h2⟩
    · rw [if_neg hd]
      have h3 := sp2_In (va := va) h h2 ht hd
      split
      · exact ih _ h3.1 h3.2
      · exact h3
theorem spL_r {va : Nat → Int32} {t i : Nat} (h : i ≠ 13) (h2 : i ≠ 14) : ∀ n w, (spL va t n w).2.1.1 i = w.1.1 i := by
  intro n
  induction n with
  | zero => intro w; rfl
  | succ n ih =>
    intro w
    have e0 : spL va t (n + 1) w = if duZ t w = 0 then (true, w) else if (sp2 va t w).1 = true then spL va t n (sp2 va t w).2 else (false, (sp2 va t w).2) := rfl
    rw [e0]
    split
    · rfl
    · split
      · rw [ih]; exact sp2_r h h2
      · exact sp2_r h h2
/-- the event itself -/
def drZ (w : ZT) (z : Bool) : ZT := (w.1, fun i => if i = 0 then w.2 0 + (if z = true then 1 else 0) else w.2 i)
def fiZ (va : Nat → Int32) (e t : Nat) (w : ZT) : ZT := drZ (gZ va t e w) (decide ((tkZ e w).length = 0))
def ev2 (va : Nat → Int32) (e t : Nat) (w : ZT) : Bool × ZT := if (spL va t 1000 w).1 = true then (if e = 0 then spL va t 1000 w else chN va t (w.1.1 0 3) (fiZ va e t (spL va t 1000 w).2)) else spL va t 1000 w
def sta (b : Nat → Nat → Bool) : Nat → Nat → Bool := fun r s => if r = 6 ∧ s = 0 then true else b r s
theorem sta_r {b : Nat → Nat → Bool} {r : Nat} (h : r ≠ 6) : sta b r = b r := by
  funext s
  unfold sta
  rw [if_neg (fun z => h z.1)]
theorem sta_6 {b : Nat → Nat → Bool} : sta b 6 0 = true := by
  unfold sta
  rw [if_pos ⟨rfl, rfl⟩]
def stZ (va : Nat → Int32) (t : Nat) (w : ZT) : ZT := ((ent w.1.1 (cmB w.1.1 0 (fun _ _ => false)) t, enb (sta w.1.2.1) (cmB w.1.1 0 (fun _ _ => false)), alo (cmB w.1.1 0 (fun _ _ => false)) (acD w.1.1 va 0) (riL (w.1.1 3) (w.1.1 0 0) 42) w.1.2.2), w.2)
def ev1 (va : Nat → Int32) (e t : Nat) (w : ZT) : Bool × ZT := if w.1.2.1 6 0 = true then ev2 va e t w else if (chN va t (w.1.1 0 3) (stZ va t w)).1 = true then ev2 va e t (chN va t (w.1.1 0 3) (stZ va t w)).2 else chN va t (w.1.1 0 3) (stZ va t w)
/-- what holds of a chart between the events -/
def WI (w : ZT) : Prop := Cv w.1.1 ∧ S14 w.1.1 ∧ (w.1.2.1 6 0 = true → Cfg w.1.1 w.1.2.1) ∧ (w.1.2.1 6 0 = false → w.1.2.1 0 = (fun _ => false) ∧ ∀ s, s ≤ w.1.1 0 0 → w.1.1 13 s = 0)
theorem lv_non {c : Nat → Nat → Nat} {b : Nat → Nat → Bool} (hb : b 0 = fun _ => false) : lvC c b 0 = c ∧ lvB c b 0 = b := by
  have hx : ∀ j, exB (c 1) (c 3) (b 0) 0 j = false := by
    intro j
    unfold exB
    rw [hb]
    rfl
  refine ⟨?_, ?_⟩
  · funext i j
    unfold lvC
    rw [if_neg (fun z => by rw [hx] at z; cases z.2.1)]
  · funext r s
    unfold lvB
    by_cases hr : r = 0
    · rw [if_pos hr, hr, hb]
      rfl
    · rw [if_neg hr]
theorem st_cf {va : Nat → Int32} {t : Nat} {w : ZT} (h : WI w) (hb : w.1.2.1 6 0 = false) (ht : t ≤ 20000) : InW (stZ va t w) ∧ S14 (stZ va t w).1.1 ∧ ∀ s, s ≤ w.1.1 0 0 → chE w.1.1 (cmB w.1.1 0 (fun _ _ => false)) (chK w.1.1 (sta w.1.2.1)) s = chK (stZ va t w).1.1 (stZ va t w).1.2.1 s := by
  obtain ⟨hv, hS, _, hn⟩ := h
  obtain ⟨hb0, hh⟩ := hn hb
  have hT := hv.1
  have hb1 : sta w.1.2.1 0 = fun _ => false := by rw [sta_r (by omega)]; exact hb0
  obtain ⟨l1, l2⟩ := lv_non (c := w.1.1) (b := sta w.1.2.1) hb1
  have hH : HiV w.1.1 := fun s hs => Or.inl (hh s hs)
  have hD : CfD w.1.1 (sta w.1.2.1) 0 := by
    refine ⟨fun s u1 u2 u3 => ?_, fun s t' u1 u2 u3 u4 u5 => ?_, fun p hp hp0 hi => ?_, hH⟩
    · rw [hb1] at u3; cases u3
    · rw [hb1] at u5; cases u5
    · exfalso
      rw [ins_root hT p (by omega) hp] at hi
      cases hi
  have hst := cf_step (g := fun _ _ => false) (now := t) hT hD (Nat.zero_le _) hT.2.2.1 (Or.inl rfl) l1.symm GoA_0
  rw [l2] at hst
  have hx : ∀ s, exB (w.1.1 1) (w.1.1 3) ((sta w.1.2.1) 0) 0 s = false := by
    intro s
    unfold exB
    rw [hb1]
    rfl
  refine ⟨⟨?_, hst.1⟩, ?_, fun s hs => ?_⟩
  · refine Cv_c (fun i hi => ?_) hv
    funext j
    show ent w.1.1 (cmB w.1.1 0 (fun _ _ => false)) t i j = w.1.1 i j
    unfold ent
    rw [if_neg (fun z => by omega)]
  · intro s hs
    show ent w.1.1 (cmB w.1.1 0 (fun _ _ => false)) t 14 s ≤ 20000
    have hs2 : s ≤ w.1.1 0 0 := by
      have e : (stZ va t w).1.1 0 0 = w.1.1 0 0 := by
        show ent w.1.1 (cmB w.1.1 0 (fun _ _ => false)) t 0 0 = w.1.1 0 0
        unfold ent
        rw [if_neg (fun z => by omega)]
      rw [e] at hs
      exact hs
    unfold ent
    split
    · exact ht
    · exact hS s hs2
  · have h2 := hst.2 s hs
    have e : (fun s => if exB (w.1.1 1) (w.1.1 3) ((sta w.1.2.1) 0) 0 s = true then 0 else chK w.1.1 (sta w.1.2.1) s) = chK w.1.1 (sta w.1.2.1) := by
      funext j
      rw [hx j, if_neg (by decide)]
    rw [e] at h2
    exact h2
theorem c_aim0 {fu : Nat} {A : mwM} {L : mwL} {k : Nat} {c : Nat → Nat → Nat} (hf : 402 ≤ fu) (hv : Cv c) (hC : TrC A k (c 0 0) (c 1) (c 2) (c 3)) : wq (DX2_aim fu k 0 0 A L) (fun z => z.2 = L ∧ GrC z.1 k (c 0 0) (fun _ _ => false) (fun _ => 0) ∧ ∀ b y, b ≠ k + 12 → b ≠ k + 13 → z.1 b y = A b y) := by
  have hN := hv.1.1
  unfold DX2_aim
  refine wq_for (body := fun r z => fX2_aim_i2 fu k 0 0 r z.1 z.2.1 z.2.2) (fun i (a : mwM) => (sI i, a, L)) (fun i a => (∀ p, p < i → a (k + 12) p = sI 0 ∧ a (k + 13) p = sI 0) ∧ ∀ b y, b ≠ k + 12 → b ≠ k + 13 → a b y = A b y) (c 0 0 + 1) ?_ ?_ (c 0 0 + 1) 0 A fu (by omega) (by omega) ⟨fun p hp => by omega, fun _ _ _ _ => rfl⟩
  · intro i a r hi ⟨p1, p2⟩ ih
    show wq (fX2_aim_i2 fu k 0 0 r (sI i) a L) _
    have e7 : a k 7 = sI (c 0 0) := (p2 _ _ (by omega) (by omega)).trans hC.1
    unfold fX2_aim_i2
    rw [e7, if_neg (by rw [sI_lt (by omega) (by omega)]; omega)]
    simp (disch := omega) only [mck_s, sI_nn, nn_s, sI_lt, sI_le, sI_eq, sI_ltl, sI_lel, sI_eql, sI_llt, sI_lle, sI_1, bI_0, bI_1, bI_n, mlet, mb3_s, mb2_s]
    refine ih _ ⟨fun p hp => ?_, fun b y u1 u2 => by simp (disch := omega) only [mset_n]; exact p2 b y u1 u2⟩
    by_cases hq : p = i
    · subst hq
      simp (disch := omega) only [mset_n, mset_s]
      exact ⟨rfl, rfl⟩
    · simp (disch := omega) only [mset_n]
      exact p1 p (by omega)
  · intro a r ⟨p1, p2⟩
    show wq (fX2_aim_i2 fu k 0 0 r (sI (c 0 0 + 1)) a L) _
    have e7 : a k 7 = sI (c 0 0) := (p2 _ _ (by omega) (by omega)).trans hC.1
    unfold fX2_aim_i2
    rw [e7, if_pos (by rw [sI_lt (by omega) (by omega)]; omega), if_pos rfl]
    exact wq_some ⟨rfl, fun p hp => p1 p (by omega), p2⟩
/-! an event happens: the class -/
theorem RcW_f {k : Nat} {A A' : mwM} {L L' : mwL} {va : Nat → Int32} {w : ZT} (h : RcW k A L va w) (hA : ∀ a y, k ≤ a → a ≤ k + 33 → ¬ (a = k ∧ (y = 5 ∨ y = 11 ∨ y = 12 ∨ y = 13)) → ¬ (k + 12 ≤ a ∧ a ≤ k + 16) → a ≠ k + 27 → A' a y = A a y) (hL : L' (k + 34) = L (k + 34)) : RcW k A' L' va w := ⟨ReC_f h.1 (fun a y u1 u2 u3 u4 u5 u6 => hA a y u1 u2 u3 u4 u6) hL, DoC_c h.2 (fun _ _ => rfl) (fun e => hA _ _ (by omega) (by omega) (by omega) (by omega) (by omega))⟩
/-- one state has spoken -/
theorem RcW_sp {k s : Nat} {A : mwM} {L : mwL} {va : Nat → Int32} {w : ZT} (h : RcW k A L va w) (hs : s ≤ w.1.1 0 0) : RcW k (mset A (k + 11) s 1) L va (spZ s w) := by
  obtain ⟨⟨j1, j2, j3, j4, j5, j6, j7, j8⟩, hD⟩ := h
  refine ⟨⟨TrC_f j1 (mset_k (by omega)) (fun a s u1 u2 => mset_k (by omega)), ?_, ?_, ?_, ?_, ?_, ?_, ?_⟩, DoC_c hD (fun _ _ => rfl) (fun e => mset_k (by omega))⟩
  · refine ⟨?_, fun e u1 u2 => ?_⟩
    · simp (disch := omega) only [mset_n]; exact j2.1
    · simp (disch := omega) only [mset_n]; exact j2.2 e u1 u2
  · refine ⟨?_, fun i hi => ?_⟩
    · simp (disch := omega) only [mset_n]; exact j3.1
    · simp (disch := omega) only [mset_n]; exact j3.2 i hi
  · simp (disch := omega) only [mset_n]; exact j4
  · intro t ht
    simp (disch := omega) only [mset_n]
    have := j5 t ht
    refine ⟨this.1, this.2.1, ?_, this.2.2.2⟩
    have e : chK (spZ s w).1.1 (spZ s w).1.2.1 t = chK w.1.1 w.1.2.1 t := by
      unfold chK
      have e2 : (spZ s w).1.2.1 0 = w.1.2.1 0 := by
        funext j
        show (if (0 : Nat) = 1 ∧ j = s then true else w.1.2.1 0 j) = w.1.2.1 0 j
        rw [if_neg (by omega)]
      rw [e2]
      rfl
    rw [e]
    exact this.2.2.1
  · intro t u1 ht
    have := j6 t u1 ht
    refine ⟨?_, ?_, ?_, ?_⟩
    · simp (disch := omega) only [mset_n]
      rw [this.1]
      show bI (w.1.2.1 0 t) = bI (if (0 : Nat) = 1 ∧ t = s then true else w.1.2.1 0 t)
      rw [if_neg (by omega)]
    · simp (disch := omega) only [mset_n]; exact this.2.1
    · show _ = bI (if (1 : Nat) = 1 ∧ t = s then true else w.1.2.1 1 t)
      by_cases hq : t = s
      · rw [hq, mset_s, if_pos ⟨rfl, rfl⟩]; rfl
      · rw [mset_j hq, if_neg (fun z => hq z.2)]; exact this.2.2.1
    · simp (disch := omega) only [mset_n]
      rw [this.2.2.2]
      show bI (w.1.2.1 2 t) = bI (if (2 : Nat) = 1 ∧ t = s then true else w.1.2.1 2 t)
      rw [if_neg (by omega)]
  · refine ⟨fun i v hv => ?_, fun i v hv => ?_⟩
    · simp (disch := omega) only [mset_n]; exact j7.1 i v hv
    · simp (disch := omega) only [mset_n]; exact j7.2 i v hv
  · intro e u1 u2
    simp (disch := omega) only [mset_n]
    rw [j8 e u1 u2]
    show _ = sI (sn (if (3 : Nat) = 1 ∧ e = s then true else w.1.2.1 3 e) (if (4 : Nat) = 1 ∧ e = s then true else w.1.2.1 4 e) (if (5 : Nat) = 1 ∧ e = s then true else w.1.2.1 5 e))
    rw [if_neg (by omega), if_neg (by omega), if_neg (by omega)]
def frC (k : Nat) (A A' : mwM) : Prop := ∀ a y, ¬ (k + 7 ≤ a ∧ a ≤ k + 17) → a ≠ k + 26 → a ≠ k + 27 → ¬ (a = k ∧ (y = 12 ∨ y = 14 ∨ y = 15 ∨ y = 16)) → A' a y = A a y
theorem c_ev2 {fu : Nat} {A : mwM} {L : mwL} {k e t : Nat} {va : Nat → Int32} {w : ZT} (hf : 1100 ≤ fu) (hw : InW w) (hS : S14 w.1.1) (h : RcW k A L va w) (ht : t ≤ 20000) (he : e < 1000) : wq (fX2_happen_b37 fu k (sI e) (sI t) A L) (fun z => z.1 = bI (ev2 va e t w).1 ∧ RcW k z.2.1 z.2.2 va (ev2 va e t w).2 ∧ frC k A z.2.1 ∧ ∀ a, a ≠ k + 34 → z.2.2 a = L a) := by
  have hN := hw.1.1.1
  generalize hQ : (fun z : Int32 × mwM × mwL => z.1 = bI (ev2 va e t w).1 ∧ RcW k z.2.1 z.2.2 va (ev2 va e t w).2 ∧ frC k A z.2.1 ∧ ∀ a, a ≠ k + 34 → z.2.2 a = L a) = Q
  -- the speaking is over, and nobody wants more
  have fin : ∀ (a : mwM) (l : mwL), (spL va t 1000 w).1 = true → RcW k a l va (spL va t 1000 w).2 → frC k A a → (∀ b, b ≠ k + 34 → l b = L b) → wq (fX2_happen_b124 fu k (sI e) (sI t) 0 a l) Q := by
    intro a l hok hr p1 p2
    have hI := spL_In (va := va) ht 1000 w hw hS
    have e0 : ev2 va e t w = if e = 0 then spL va t 1000 w else chN va t (w.1.1 0 3) (fiZ va e t (spL va t 1000 w).2) := by
      unfold ev2
      rw [if_pos hok]
    have hlimu : (spL va t 1000 w).2.1.1 0 3 = w.1.1 0 3 := by rw [spL_r (by omega) (by omega)]
    generalize spL va t 1000 w = u at *
    unfold fX2_happen_b124
    rw [if_pos rfl]
    simp only [mlet]
    have hr2 : RcW k (mset a k 12 (sI t)) l va u.2 := RcW_f hr (fun b y u1 u2 u3 u4 u5 => mset_n (by omega)) rfl
    by_cases he0 : e = 0
    · rw [if_pos (by rw [he0]; rfl)]
      rw [if_pos he0] at e0
      rw [← hQ, e0]
      refine wq_some ⟨by rw [hok]; rfl, hr2, fun b y u1 u2 u3 u4 => ?_, p2⟩
      dsimp only
      rw [mset_n (by omega)]; exact p1 b y u1 u2 u3 u4
    rw [if_neg (by rw [sI_eql (by omega) (by decide)]; exact he0)]
    rw [if_neg he0] at e0
    refine wq_b3 (c_selZ (v := e) (by omega) hI.1 hr2 (by omega)) ?_
    rintro r1 M1 L1 ⟨y1, y2, y3, y4, y5⟩
    dsimp only at y1 y2 y3 y4 y5
    subst y1 y2
    have n1 : M1 k 12 = sI t := by rw [y5 _ _ (by omega) (by omega), mset_s]
    refine wq_b2 (c_goZ (now := t) (by omega) hI.1 y3 y4 n1) ?_
    rintro M2 L2 ⟨z1, z2, z3⟩
    dsimp only at z1 z2 z3
    have hlz := tkZ_len (v := e) hI.1
    have n2 : M2 k 12 = sI t := by rw [z2 _ _ (by omega) (by omega)]; exact n1
    have e14 : M2 k 14 = (gZ va t e u.2).2 0 := z1.1.2.2.2.1.2.2.1
    have rest : ∀ d : Int32, d = (if decide ((tkZ e u.2).length = 0) = true then 1 else 0) → wq (fX2_happen_b169 fu k (sI e) (sI t) (M2 k 14) d M2 L2) Q := by
      intro d hd
      unfold fX2_happen_b169
      simp only [mlet]
      have hr3 : RcW k (mset M2 k 14 (M2 k 14 + d)) L2 va (fiZ va e t u.2) := by
        obtain ⟨⟨j1, j2, j3, j4, j5, j6, j7, j8⟩, hD⟩ := z1
        refine ⟨⟨TrC_f j1 (mset_j (by omega)) (fun a s u1 u2 => mset_k (by omega)), ?_, ?_, ?_, ?_, ?_, ?_, ?_⟩, DoC_c hD (fun _ _ => rfl) (fun e => mset_k (by omega))⟩
        · refine ⟨?_, fun e u1 u2 => ?_⟩
          · simp (disch := omega) only [mset_n]; exact j2.1
          · simp (disch := omega) only [mset_n]; exact j2.2 e u1 u2
        · refine ⟨?_, fun i hi => ?_⟩
          · simp (disch := omega) only [mset_n]; exact j3.1
          · simp (disch := omega) only [mset_n]; exact j3.2 i hi
        · refine ⟨?_, ?_, ?_, ?_, ?_, j4.2.2.2.2.2⟩
          · simp (disch := omega) only [mset_n]; exact j4.1
          · simp (disch := omega) only [mset_n]; exact j4.2.1
          · rw [mset_s, e14, hd]
            rfl
          · simp (disch := omega) only [mset_n]
            rw [j4.2.2.2.1]
            rfl
          · simp (disch := omega) only [mset_n]; exact j4.2.2.2.2.1
        · intro t ht
          simp (disch := omega) only [mset_n]; exact j5 t ht
        · intro t u1 ht
          simp (disch := omega) only [mset_n]; exact j6 t u1 ht
        · refine ⟨fun i v hv => ?_, fun i v hv => ?_⟩
          · simp (disch := omega) only [mset_n]; exact j7.1 i v hv
          · simp (disch := omega) only [mset_n]; exact j7.2 i v hv
        · intro e u1 u2
          simp (disch := omega) only [mset_n]; exact j8 e u1 u2
      have hlim : (fiZ va e t u.2).1.1 0 3 = w.1.1 0 3 := by
        have h1 : (gZ va t e u.2).1.1 0 = u.2.1.1 0 := g_r (by omega) (by omega)
        have h2 : (fiZ va e t u.2).1.1 0 3 = (gZ va t e u.2).1.1 0 3 := rfl
        rw [h2, h1]
        exact hlimu
      refine wq_b3 (c_chain (now := t) (w := fiZ va e t u.2) (by omega) (In_g hI.1) hr3 (by rw [mset_j (by omega)]; exact n2)) ?_
      rintro r3 M3 L3 ⟨v1, v2, v3, v4, v5⟩
      dsimp only at v1 v2 v3 v4 v5
      rw [hlim, ← e0] at v1 v2
      subst v1
      rw [← hQ]
      refine wq_zz bI_z (wq_some ⟨rfl, v2, fun b y u1 u2 u3 u4 => ?_, fun b u1 => ?_⟩)
      all_goals (try dsimp only)
      · rw [v4 _ _ u1 u2 u3 (by omega), mset_n (by omega), z2 _ _ u1 u2, y5 _ _ (by omega) (by omega), mset_n (by omega)]
        exact p1 b y u1 u2 u3 u4
      · rw [v5 _ u1, z3 _ u1]; exact p2 b u1
    by_cases hz : (tkZ e u.2).length = 0
    · rw [if_pos (by rw [hz]; rfl)]
      exact rest 1 (by rw [decide_eq_true hz]; rfl)
    · rw [if_neg (by rw [sI_eql (by omega) (by decide)]; exact hz)]
      exact rest 0 (by rw [decide_eq_false hz]; rfl)
  have bad : (spL va t 1000 w).1 = false → ev2 va e t w = spL va t 1000 w := by
    intro hok
    unfold ev2
    rw [hok, if_neg (by decide)]
  -- the speaking
  have key : ∀ (n i f : Nat) (u : ZT) (a : mwM) (l : mwL), i + n = 1000 → n < f → InW u → S14 u.1.1 → u.1.1 0 3 = w.1.1 0 3 → RcW k a l va u → spL va t n u = spL va t 1000 w → frC k A a → (∀ b, b ≠ k + 34 → l b = L b) → wq (fX2_happen_h46 fu k (sI e) (sI t) f (sI (duZ t u), sI i, a, l)) Q := by
    intro n
    induction n with
    | zero =>
      intro i f u a l hi hf1 hu hSu hlim hr hsp p1 p2
      obtain ⟨g, rfl⟩ : ∃ g, f = g + 1 := ⟨f - 1, by omega⟩
      have e0 : spL va t 0 u = (decide (duZ t u = 0), u) := rfl
      rw [e0] at hsp
      unfold fX2_happen_h46
      rw [mloop_S]
      show wq (fX2_happen_i46 fu k (sI e) (sI t) (fX2_happen_h46 fu k (sI e) (sI t) g) (sI (duZ t u)) (sI i) a l) Q
      unfold fX2_happen_i46
      rw [if_pos (by rw [sI_lle (by decide) (by omega)]; omega)]
      by_cases hd : duZ t u = 0
      · rw [hd]
        refine fin a l (by rw [← hsp]; exact decide_eq_true hd) (by rw [← hsp]; exact hr) p1 p2
      · have hdl := (du_ok hd).1
        have hNu := hu.1.1.1
        unfold fX2_happen_b124
        rw [if_neg (by rw [sI_eql (by omega) (by decide)]; exact hd)]
        have hb := bad (by rw [← hsp]; exact decide_eq_false hd)
        rw [← hQ, hb, ← hsp]
        refine wq_some ⟨?_, hr, p1, p2⟩
        rw [decide_eq_false hd]
        rfl
    | succ n ih =>
      intro i f u a l hi hf1 hu hSu hlim hr hsp p1 p2
      obtain ⟨g, rfl⟩ : ∃ g, f = g + 1 := ⟨f - 1, by omega⟩
      have e0 : spL va t (n + 1) u = if duZ t u = 0 then (true, u) else if (sp2 va t u).1 = true then spL va t n (sp2 va t u).2 else (false, (sp2 va t u).2) := rfl
      rw [e0] at hsp
      unfold fX2_happen_h46
      rw [mloop_S]
      show wq (fX2_happen_i46 fu k (sI e) (sI t) (fX2_happen_h46 fu k (sI e) (sI t) g) (sI (duZ t u)) (sI i) a l) Q
      unfold fX2_happen_i46
      rw [if_neg (by rw [sI_lle (by decide) (by omega)]; omega)]
      by_cases hd : duZ t u = 0
      · rw [if_pos hd] at hsp
        rw [if_pos (by rw [hd]; rfl), hd]
        exact fin a l (by rw [← hsp]) (by rw [← hsp]; exact hr) p1 p2
      rw [if_neg hd] at hsp
      have hdk := du_ok hd
      have hdl := hdk.1
      have hat := hdk.2
      have hNu := hu.1.1.1
      have hsp1 := sp1_In (va := va) hu hSu ht hd
      have hsp2 := sp2_In (va := va) hu hSu ht hd
      rw [if_neg (by rw [sI_eql (by omega) (by decide)]; exact hd)]
      have e10 := (hr.1.2.2.2.2.2.1 (duZ t u) (by omega) hdl).2.1
      have e5 := (hr.1.2.2.2.2.1 (duZ t u) hdl).1
      simp (disch := omega) only [mset_n, e10, e5, sI_add, sI_lad, mck_s, sI_nn, nn_s, sI_lt, sI_le, sI_eq, sI_ltl, sI_lel, sI_eql, sI_llt, sI_lle, sI_1, bI_0, bI_1, bI_n, mlet, mb3_s, mb2_s]
      have hrs : RcW k (mset (mset a (k + 11) (duZ t u) 1) k 12 (sI (u.1.1 14 (duZ t u) + u.1.1 12 (duZ t u)))) l va (spZ (duZ t u) u) := RcW_f (RcW_sp hr hdl) (fun b y u1 u2 u3 u4 u5 => mset_n (by omega)) rfl
      refine wq_b3 (c_selZ (v := 1000 + duZ t u) (by omega) (sp_In hu) hrs (by omega)) ?_
      rintro r1 M1 L1 ⟨y1, y2, y3, y4, y5⟩
      dsimp only at y1 y2 y3 y4 y5
      subst y1 y2
      have n1 : M1 k 12 = sI (atZ t u) := by
        rw [y5 _ _ (by omega) (by omega), mset_s]
        rfl
      refine wq_b2 (c_goZ (now := atZ t u) (by omega) (sp_In hu) y3 y4 n1) ?_
      rintro M2 L2 ⟨z1, z2, z3⟩
      dsimp only at z1 z2 z3
      have n2 : M2 k 12 = sI (atZ t u) := by rw [z2 _ _ (by omega) (by omega)]; exact n1
      have hlim1 : (sp1 va t u).1.1 0 3 = u.1.1 0 3 := by
        have h1 : (sp1 va t u).1.1 0 = u.1.1 0 := g_r (w := spZ (duZ t u) u) (by omega) (by omega)
        rw [h1]
      refine wq_b3 (c_chain (now := atZ t u) (w := sp1 va t u) (by omega) hsp1.1 z1 n2) ?_
      rintro r3 M3 L3 ⟨v1, v2, v3, v4, v5⟩
      dsimp only at v1 v2 v3 v4 v5
      rw [hlim1] at v1 v2
      have v1' : r3 = bI (sp2 va t u).1 := v1
      have v2' : RcW k M3 L3 va (sp2 va t u).2 := v2
      have fr3 : frC k A M3 := by
        intro b y u1 u2 u3 u4
        rw [v4 _ _ u1 u2 u3 (by omega), z2 _ _ u1 u2, y5 _ _ (by omega) (by omega), mset_n (by omega), mset_n (by omega)]
        exact p1 b y u1 u2 u3 u4
      have fl3 : ∀ b, b ≠ k + 34 → L3 b = L b := fun b u1 => by rw [v5 _ u1, z3 _ u1]; exact p2 b u1
      rw [v1']
      cases hok : (sp2 va t u).1 with
      | false =>
        rw [if_pos bI_f]
        rw [hok, if_neg (by decide)] at hsp
        have hb := bad (by rw [← hsp])
        rw [← hQ, hb, ← hsp]
        exact wq_some ⟨rfl, v2', fr3, fl3⟩
      | true =>
        rw [if_neg (by decide)]
        rw [hok, if_pos rfl] at hsp
        rw [c_nextToSpeak (by omega) hsp2.1.1 hsp2.2 v2'.1 ht, mb3_s]
        refine ih (i + 1) g (sp2 va t u).2 M3 L3 (by omega) (by omega) hsp2.1 hsp2.2 ?_ v2' hsp fr3 fl3
        rw [sp2_r (by omega) (by omega)]; exact hlim
  unfold fX2_happen_b37
  rw [c_nextToSpeak (by omega) hw.1 hS h.1 ht, mb3_s]
  exact key 1000 0 fu w A L (by omega) (by omega) hw hS rfl h rfl (fun _ _ _ _ _ _ => rfl) (fun _ _ => rfl)
