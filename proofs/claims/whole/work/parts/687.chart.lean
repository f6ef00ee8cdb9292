/-! the reference enters, all in all -/
def pz (c : Nat → Nat → Nat) (j i s : Nat) : Bool := decide (c 3 s < j) || (decide (c 3 s = j) && decide (s < i))
theorem pz_S {c : Nat → Nat → Nat} {j i s : Nat} : pz c j (i + 1) s = (pz c j i s || (decide (c 3 s = j) && decide (s = i))) := by
  unfold pz
  by_cases h1 : c 3 s < j
  · rw [decide_eq_true h1]; rfl
  · rw [decide_eq_false h1]
    by_cases h2 : c 3 s = j
    · rw [decide_eq_true h2]
      by_cases h3 : s < i
      · rw [decide_eq_true h3, decide_eq_true (show s < i + 1 by omega)]; rfl
      · rw [decide_eq_false h3]
        by_cases h4 : s = i
        · rw [decide_eq_true h4, decide_eq_true (show s < i + 1 by omega)]; rfl
        · rw [decide_eq_false h4, decide_eq_false (show ¬ s < i + 1 by omega)]; rfl
    · rw [decide_eq_false h2]; rfl
theorem pz_N {c : Nat → Nat → Nat} {j n i s : Nat} (hs : s < n) (hi : i ≤ s) : pz c j n s = pz c (j + 1) i s := by
  unfold pz
  by_cases h1 : c 3 s < j
  · rw [decide_eq_true h1, decide_eq_true (show c 3 s < j + 1 by omega)]; rfl
  · rw [decide_eq_false h1]
    by_cases h2 : c 3 s = j
    · rw [decide_eq_true h2, decide_eq_true hs, decide_eq_true (show c 3 s < j + 1 by omega)]; rfl
    · rw [decide_eq_false h2, decide_eq_false (show ¬ c 3 s < j + 1 by omega), decide_eq_false (show ¬ s < i by omega)]
      simp
theorem m_enter {fu : Nat} {M : mwM} {L : mwL} {q e d now : Nat} {c : Nat → Nat → Nat} {b : Nat → Nat → Bool} {va : Nat → Int32} {D : Nat → Int64} {x : Nat → Int32} {g : Nat → Nat → Bool} (hf : 601 ≤ fu) (hv : Cv c) (hH : HiV c) (h : ReM q M L c b va D x) (he : e ≤ c 0 1) (hd : d = if e = 0 then 0 else doE c e) (hk0 : c 2 d = 0) (hgg : g = if e = 0 then (fun _ _ => false) else aiN c e d (c 0 1)) : wq (DX13_enter fu q (sI d) (sI e) (sL now) M L) (fun z => ReM q z.1 z.2 (ent c (cmB c d g) now) (enb b (cmB c d g)) va (alo (cmB c d g) (acD c va 0) (riL (c 3) (c 0 0) 42) D) x ∧ (∀ a y, ¬ (q + 7 ≤ a ∧ a ≤ q + 9) → ¬ (a = q + 22 ∨ (q + 27 ≤ a ∧ a ≤ q + 29)) → ¬ (a = q ∧ y = 31) → z.1 a y = M a y) ∧ ∀ a, a ≠ q + 6 → a ≠ q + 21 → z.2 a = L a) := by
  have hT := hv.1
  have hE := hv.2.1
  have hN := hT.1
  have hE4 := hE.1
  have b0 : vp_nar .boolean (0 : Int32) = bI false := by decide
  have b1 : vp_nar .boolean (1 : Int32) = bI true := by decide
  have hdl : d ≤ c 0 0 := by
    rw [hd]
    split
    · omega
    · exact doE_le
  have hdg : 1 ≤ e → d = 0 ∨ goodB (c 1) (c 2) (c 3) (c 4) (c 5) (c 0 1) d e = true := by
    intro he1
    rw [hd, if_neg (by omega)]
    rcases do_good hv (e := e) with w | w
    · exact Or.inl w
    · exact Or.inr w.2
  have hG : GoA c d g := by
    rw [hgg]
    by_cases he0 : e = 0
    · rw [if_pos he0]; exact GoA_0
    · rw [if_neg he0]
      rw [if_neg he0] at hd
      rw [hd]
      exact GoA_N hv _ (Nat.le_refl _)
  obtain ⟨hM, hEM, hXM, hf4, h5, h6, h7, h8⟩ := h
  obtain ⟨rw0, hr0, hr1⟩ := hf4.2.2.2.2.2.2
  generalize hQ : (fun z : mwM × mwL => ReM q z.1 z.2 (ent c (cmB c d g) now) (enb b (cmB c d g)) va (alo (cmB c d g) (acD c va 0) (riL (c 3) (c 0 0) 42) D) x ∧ (∀ a y, ¬ (q + 7 ≤ a ∧ a ≤ q + 9) → ¬ (a = q + 22 ∨ (q + 27 ≤ a ∧ a ≤ q + 29)) → ¬ (a = q ∧ y = 31) → z.1 a y = M a y) ∧ ∀ a, a ≠ q + 6 → a ≠ q + 21 → z.2 a = L a) = Q
  -- the last way: entering by levels
  have last : ∀ B : mwM, (∀ s, 1 ≤ s → s ≤ c 0 0 → B (q + 27) s = bI (cmB c d g s)) → (∀ a y, ¬ (q + 27 ≤ a ∧ a ≤ q + 29) → B a y = M a y) → wq (fX13_enter_h163 fu q (sI d) (sI e) (sL now) fu (0, B, L)) Q := by
    intro B o1 o2
    generalize hcm : cmB c d g = cm at *
    refine wq_for (body := fun r z => fX13_enter_i163 fu q (sI d) (sI e) (sL now) r z.1 z.2.1 z.2.2) (fun j (w : mwM × mwL) => (sI j, w.1, w.2)) (fun j w => (∀ s, 1 ≤ s → s ≤ c 0 0 → w.1 (q + 9) s = bI (b 0 s || (cm s && pz c j 1 s)) ∧ w.2 (q + 6) s = sL (if (cm s && pz c j 1 s) = true then now else c 14 s) ∧ w.1 (q + 7) s = bI (b 1 s && !(cm s && pz c j 1 s)) ∧ w.1 (q + 8) s = bI (b 2 s || (cm s && pz c j 1 s))) ∧ w.2 (q + 21) = riI (c 3) (c 0 0) cm (acD c va 0) D j ∧ (∃ r, r ≤ 500 ∧ w.1 q 31 = sI r) ∧ w.1 (q + 9) 0 = M (q + 9) 0 ∧ (∀ a, a ≠ q + 6 → a ≠ q + 21 → w.2 a = L a) ∧ ∀ a y, ¬ (q + 7 ≤ a ∧ a ≤ q + 9) → a ≠ q + 22 → ¬ (a = q ∧ y = 31) → w.1 a y = B a y) 42 ?_ ?_ 42 0 (B, L) fu (by omega) (by omega) ⟨?_, hf4.2.2.2.2.2.1, ⟨rw0, hr0, ?_⟩, ?_, fun _ _ _ => rfl, fun _ _ _ _ _ => rfl⟩
    · rintro j ⟨a, l⟩ r163 hj ⟨q1, q2, ⟨rw1, q3, q4⟩, q5, q6, q7⟩ ih
      dsimp only at q1 q2 q4 q5 q6 q7
      show wq (fX13_enter_i163 fu q (sI d) (sI e) (sL now) r163 (sI j) a l) _
      have key := fun (X : mwM) (Y : mwL) => ih (X, Y)
      dsimp only at key
      unfold fX13_enter_i163
      rw [if_neg (by rw [sI_lle (by decide) (by omega)]; omega)]
      refine wq_for (body := fun r z => fX13_enter_i173 fu q (sI d) (sI e) (sL now) r163 r z.1 z.2.1 z.2.2.1 z.2.2.2) (fun i (w : mwM × mwL) => (sI j, sI i, w.1, w.2)) (fun i w => 1 ≤ i ∧ (∀ s, 1 ≤ s → s ≤ c 0 0 → w.1 (q + 9) s = bI (b 0 s || (cm s && pz c j i s)) ∧ w.2 (q + 6) s = sL (if (cm s && pz c j i s) = true then now else c 14 s) ∧ w.1 (q + 7) s = bI (b 1 s && !(cm s && pz c j i s)) ∧ w.1 (q + 8) s = bI (b 2 s || (cm s && pz c j i s))) ∧ w.2 (q + 21) = nsI (fun s => cm s && decide (c 3 s = j)) (acD c va 0) (i - 1) (riI (c 3) (c 0 0) cm (acD c va 0) D j) ∧ (∃ r, r ≤ 500 ∧ w.1 q 31 = sI r) ∧ w.1 (q + 9) 0 = M (q + 9) 0 ∧ (∀ a, a ≠ q + 6 → a ≠ q + 21 → w.2 a = L a) ∧ ∀ a y, ¬ (q + 7 ≤ a ∧ a ≤ q + 9) → a ≠ q + 22 → ¬ (a = q ∧ y = 31) → w.1 a y = B a y) (c 0 0 + 1) ?_ ?_ (c 0 0) 1 (a, l) fu (by omega) (by omega) ⟨Nat.le_refl _, q1, q2, ⟨rw1, q3, q4⟩, q5, q6, q7⟩
      · rintro i ⟨a, l⟩ r hi ⟨hi1, t1, t2, ⟨rw2, t3, t4⟩, t5, t6, t7⟩ ih2
        dsimp only at t1 t2 t4 t5 t6 t7
        show wq (fX13_enter_i173 fu q (sI d) (sI e) (sL now) r163 r (sI j) (sI i) a l) _
        have key2 := fun (X : mwM) (Y : mwL) => ih2 (X, Y)
        dsimp only at key2
        obtain ⟨n, rfl⟩ : ∃ n, i = n + 1 := ⟨i - 1, by omega⟩
        simp only [show n + 1 + 1 - 1 = n + 1 from rfl] at key2
        rw [Nat.add_sub_cancel] at t2
        have hde := (Tr_pa hT (show n + 1 ≤ c 0 0 by omega)).2.2.2.2
        have e2 : a q 2 = sI (c 0 0) := by rw [t7 _ _ (by omega) (by omega) (by omega), o2 _ _ (by omega)]; exact hM.1
        have e27 : a (q + 27) (n + 1) = bI (cm (n + 1)) := by rw [t7 _ _ (by omega) (by omega) (by omega)]; exact o1 _ (by omega) (by omega)
        have e3 : a (q + 3) (n + 1) = sI (c 3 (n + 1)) := by rw [t7 _ _ (by omega) (by omega) (by omega), o2 _ _ (by omega)]; exact (hM.2 _ (by omega)).2.2
        have ens : ∀ D0, nsI (fun s => cm s && decide (c 3 s = j)) (acD c va 0) (n + 1) D0 = if (cm (n + 1) && decide (c 3 (n + 1) = j)) = true then acD c va 0 (n + 1) (nsI (fun s => cm s && decide (c 3 s = j)) (acD c va 0) n D0) else nsI (fun s => cm s && decide (c 3 s = j)) (acD c va 0) n D0 := fun D0 => rfl
        have skip : (cm (n + 1) && decide (c 3 (n + 1) = j)) = false → wq (r (sI j, sI (n + 1 + 1), a, l)) Q := by
          intro hno
          refine key2 a l ⟨by omega, fun s u1 u2 => ?_, ?_, ⟨rw2, t3, t4⟩, t5, t6, t7⟩
          · have := t1 s u1 u2
            rw [pz_S]
            by_cases hq : s = n + 1
            · subst hq
              by_cases hc : cm (n + 1) = true
              · rw [hc, Bool.true_and] at hno
                rw [hno, Bool.false_and, Bool.or_false]
                exact this
              · have hc' : cm (n + 1) = false := by simpa using hc
                rw [hc'] at this ⊢
                exact this
            · rw [decide_eq_false hq, Bool.and_false, Bool.or_false]
              exact this
          · rw [ens, hno, if_neg (by decide)]
            exact t2
        unfold fX13_enter_i173 fX13_enter_b251
        simp (disch := omega) only [e2, e27, e3, mck_s, sI_nn, nn_s, sI_lt, sI_le, sI_eq, sI_ltl, sI_lel, sI_eql, sI_llt, sI_lle, sI_1, bI_0, bI_1, bI_n, mlet, mb3_s, mb2_s]
        rw [if_neg (by omega)]
        cases hc : cm (n + 1) with
        | false =>
          rw [if_pos rfl]
          exact skip (by rw [hc]; rfl)
        | true =>
          rw [if_neg (by decide)]
          by_cases hdj : c 3 (n + 1) = j
          · rw [if_pos hdj]
            refine wq_b2 (m_note (rw' := rw2) t4 t3) ?_
            rintro M1 L1 ⟨y1, ⟨rw3, y2, y4⟩, y3⟩
            dsimp only at y1 y4 y3
            subst y1
            simp (disch := omega) only [b0, b1, mck_s, sI_nn, nn_s, sI_lt, sI_le, sI_eq, sI_ltl, sI_lel, sI_eql, sI_llt, sI_lle, sI_1, bI_0, bI_1, bI_n, mlet, mb3_s, mb2_s]
            refine wq_b2 (m_doActs (rw' := rw3) (w := 0) (o := n + 1) (n := c 0 2) (ax := fun i => c (8 + i)) (va := va) (by omega) hv.2.2.1 ⟨?_, fun i hi => ?_⟩ (by omega) (by omega) ?_ y2) ?_
            · simp (disch := omega) only [mset_n, y3, t7, o2]; exact hXM.1
            · have := hXM.2 i hi
              rw [← t6 (q + 20) (by omega) (by omega)] at this
              simp (disch := omega) only [mset_n, y3, t7, o2]; exact this
            · simp (disch := omega) only [mset_n]; exact y4
            rintro M2 L2 ⟨z1, z2, z3, z4⟩
            dsimp only at z1 z2 z3 z4
            refine key2 M2 L2 ⟨by omega, fun s u1 u2 => ?_, ?_, z3, ?_, fun a' u1 u2 => ?_, fun a' y u1 u2 u3 => ?_⟩
            · have := t1 s u1 u2
              rw [pz_S, z2 _ (by omega)]
              by_cases hq : s = n + 1
              · subst hq
                rw [hc, decide_eq_true hdj, decide_eq_true rfl]
                simp (disch := omega) only [z4, mset_n, mset_s]
                simp
              · rw [decide_eq_false hq, Bool.and_false, Bool.or_false]
                simp (disch := omega) only [z4, mset_n, y3]
                exact this
            · rw [ens, hc, decide_eq_true hdj, Bool.and_self, if_pos rfl, z1, mset_rown (by omega), t2]
              rfl
            · simp (disch := omega) only [z4, mset_n, y3]; exact t5
            · rw [z2 _ u2, mset_rown u1]; exact t6 a' u1 u2
            · rw [z4 _ _ u3 u2]
              simp (disch := omega) only [mset_n, y3]
              exact t7 a' y u1 u2 u3
          · rw [if_neg hdj]
            exact skip (by rw [hc, decide_eq_false hdj]; rfl)
      · rintro ⟨a, l⟩ r ⟨_, t1, t2, t3, t5, t6, t7⟩
        dsimp only at t1 t2 t3 t5 t6 t7
        show wq (fX13_enter_i173 fu q (sI d) (sI e) (sL now) r163 r (sI j) (sI (c 0 0 + 1)) a l) _
        have e2 : a q 2 = sI (c 0 0) := by rw [t7 _ _ (by omega) (by omega) (by omega), o2 _ _ (by omega)]; exact hM.1
        unfold fX13_enter_i173
        rw [e2, if_pos (by rw [sI_lt (by omega) (by omega)]; omega)]
        simp only [mlet]
        rw [sI_1]
        refine key a l ⟨fun s u1 u2 => ?_, t2, t3, t5, t6, t7⟩
        have := t1 s u1 u2
        rw [pz_N (show s < c 0 0 + 1 by omega) u1] at this
        exact this
    · rintro ⟨a, l⟩ r ⟨q1, q2, q3, q5, q6, q7⟩
      dsimp only at q1 q2 q3 q5 q6 q7
      show wq (fX13_enter_i163 fu q (sI d) (sI e) (sL now) r (sI 42) a l) _
      unfold fX13_enter_i163
      rw [if_pos (by decide), ← hQ]
      have fr : ∀ a' y, ¬ (q + 7 ≤ a' ∧ a' ≤ q + 9) → ¬ (a' = q + 22 ∨ (q + 27 ≤ a' ∧ a' ≤ q + 29)) → ¬ (a' = q ∧ y = 31) → a a' y = M a' y := fun a' y u1 u2 u3 => by rw [q7 _ _ u1 (by omega) u3, o2 _ _ (by omega)]
      refine wq_some ⟨?_, fr, q6⟩
      dsimp only
      have ec : ∀ i, i ≠ 14 → ent c cm now i = c i := by
        intro i hi
        funext j
        unfold ent
        rw [if_neg (fun z => hi z.1)]
      have eb : ∀ i, 3 ≤ i → enb b cm i = b i := by
        intro i hi
        funext j
        unfold enb
        rw [if_neg (by omega), if_neg (by omega), if_neg (by omega)]
      unfold ReM
      rw [ec 0 (by omega), ec 1 (by omega), ec 2 (by omega), ec 3 (by omega), ec 4 (by omega), ec 5 (by omega), ec 6 (by omega), ec 7 (by omega), ec 12 (by omega), ec 13 (by omega), eb 3 (by omega), eb 4 (by omega), eb 5 (by omega), eb 6 (by omega)]
      refine ⟨TrM_f hM (fr _ _ (by omega) (by omega) (by omega)) (fun a s u1 u2 => fr _ _ (by omega) (by omega) (by omega)), ?_, ?_, ?_, ?_, ?_, ?_, ?_⟩
      · refine ⟨?_, fun e u1 u2 => ?_⟩
        · simp (disch := omega) only [fr]; exact hEM.1
        · simp (disch := omega) only [fr]; exact hEM.2 e u1 u2
      · refine ⟨?_, fun i hi => ?_⟩
        · simp (disch := omega) only [fr]; exact hXM.1
        · have := hXM.2 i hi
          dsimp only at this ⊢
          rw [ec _ (by omega), ec _ (by omega), ec _ (by omega), ec _ (by omega), q6 _ (by omega) (by omega)]
          simp (disch := omega) only [fr]; exact this
      · rw [q2, ri_alo]
        simp (disch := omega) only [fr]
        exact ⟨hf4.1, hf4.2.1, hf4.2.2.1, hf4.2.2.2.1, hf4.2.2.2.2.1, trivial, q3⟩
      · intro s hs
        rw [q6 _ (by omega) (by omega)]
        simp (disch := omega) only [fr]; exact h5 s hs
      · intro s u1 hs
        have := q1 s u1 hs
        have hde := (Tr_pa hT hs).2.2.2.2
        have hp : pz c 42 1 s = true := by
          unfold pz
          rw [decide_eq_true (show c 3 s < 42 by omega)]
          rfl
        rw [hp, Bool.and_true] at this
        refine ⟨this.1, ?_, this.2.2.1, this.2.2.2⟩
        rw [this.2.1]
        unfold ent
        by_cases hq : cm s = true
        · rw [if_pos hq, if_pos ⟨rfl, hq⟩]
        · rw [if_neg hq, if_neg (fun z => hq z.2)]
      · rw [q5]; exact h7
      · intro e u1 u2
        simp (disch := omega) only [fr]; exact h8 e u1 u2
    · intro s u1 u2
      have := h6 s u1 u2
      have hd1 := (hT.2.2.2.2 s u1 u2).2.1
      have hp : pz c 0 1 s = false := by
        unfold pz
        rw [decide_eq_false (show ¬ c 3 s < 0 by omega), decide_eq_false (show ¬ s < 1 by omega)]
        simp
      rw [hp]
      simp only [Bool.and_false, Bool.or_false, Bool.not_false, Bool.and_true]
      rw [if_neg (by decide)]
      simp (disch := omega) only [o2]
      exact this
    · dsimp only
      rw [o2 _ _ (by omega)]; exact hr1
    · dsimp only
      rw [o2 _ _ (by omega)]
  -- the levels: filling
  have fills : ∀ B : mwM, GrM B q (c 0 0) g → (∀ a y, ¬ (q + 27 ≤ a ∧ a ≤ q + 29) → B a y = M a y) → wq (fX13_enter_b86 fu q (sI d) (sI e) (sL now) B L) Q := by
    intro B o1 o2
    have hdd := (Tr_pa hT hdl).2.2.2.2
    have e3d : B (q + 3) d = sI (c 3 d) := (o2 _ _ (by omega)).trans (hM.2 d hdl).2.2
    unfold fX13_enter_b86
    simp (disch := omega) only [e3d, mck_s, sI_nn, nn_s, sI_lt, sI_le, sI_eq, sI_ltl, sI_lel, sI_eql, sI_llt, sI_lle, sI_1, bI_0, bI_1, bI_n, mlet, mb3_s, mb2_s]
    refine wq_for (body := fun r z => fX13_enter_i94 fu q (sI d) (sI e) (sL now) r z.1 z.2.1 z.2.2) (fun i (a : mwM) => (sI i, a, L)) (fun j a => c 3 d ≤ j ∧ (∀ t, 1 ≤ t → t ≤ c 0 0 → a (q + 27) t = bI (if pz c j 0 (c 1 t) = true then cmB c d g t else g 0 t)) ∧ (∀ p, p ≤ c 0 0 → a (q + 28) p = bI (g 1 p) ∧ a (q + 29) p = bI (if (pz c j 0 p && cnD c d g p) = true then dqB c d g p else g 2 p)) ∧ ∀ a' y, ¬ (q + 27 ≤ a' ∧ a' ≤ q + 29) → a a' y = M a' y) 42 ?_ ?_ (42 - c 3 d) (c 3 d) B fu (by omega) (by omega) ⟨Nat.le_refl _, fun t u1 u2 => ?_, fun p hp => ⟨(o1 p hp).2.1, ?_⟩, o2⟩
    · intro j a r94 hj ⟨hj0, p1, p2, p3⟩ ih
      show wq (fX13_enter_i94 fu q (sI d) (sI e) (sL now) r94 (sI j) a L) _
      unfold fX13_enter_i94
      rw [if_neg (by rw [sI_lle (by decide) (by omega)]; omega)]
      refine wq_for (body := fun r z => fX13_enter_i104 fu q (sI d) (sI e) (sL now) r94 r z.1 z.2.1 z.2.2.1 z.2.2.2) (fun i (a : mwM) => (sI j, sI i, a, L)) (fun i a => (∀ t, 1 ≤ t → t ≤ c 0 0 → a (q + 27) t = bI (if pz c j i (c 1 t) = true then cmB c d g t else g 0 t)) ∧ (∀ p, p ≤ c 0 0 → a (q + 28) p = bI (g 1 p) ∧ a (q + 29) p = bI (if (pz c j i p && cnD c d g p) = true then dqB c d g p else g 2 p)) ∧ ∀ a' y, ¬ (q + 27 ≤ a' ∧ a' ≤ q + 29) → a a' y = M a' y) (c 0 0 + 1) ?_ ?_ (c 0 0 + 1) 0 a fu (by omega) (by omega) ⟨p1, p2, p3⟩
      · intro s a r hs ⟨t1, t2, t3⟩ ih2
        show wq (fX13_enter_i104 fu q (sI d) (sI e) (sL now) r94 r (sI j) (sI s) a L) _
        have aM : TrM a q (c 0 0) (c 1) (c 2) (c 3) := TrM_f hM (t3 _ _ (by omega)) (fun d s u1 u2 => t3 _ _ (by omega))
        have hps := Tr_pa hT (show s ≤ c 0 0 by omega)
        have e3 := (aM.2 s (by omega)).2.2
        -- it is not gone through
        have skip : (c 3 s = j → cnD c d g s = false) → wq (r (sI j, sI (s + 1), a, L)) Q := by
          intro hno
          refine ih2 a ⟨fun t u1 u2 => ?_, fun p hp => ⟨(t2 p hp).1, ?_⟩, t3⟩
          · rw [t1 t u1 u2, pz_S]
            by_cases hq : c 3 (c 1 t) = j ∧ c 1 t = s
            · have := no_cm hT hG (hno (by rw [← hq.2]; exact hq.1)) u1 u2 hq.2
              rw [this.1, this.2]
              simp
            · have : (decide (c 3 (c 1 t) = j) && decide (c 1 t = s)) = false := by
                by_cases h1 : c 3 (c 1 t) = j
                · rw [decide_eq_false (show ¬ c 1 t = s from fun z => hq ⟨h1, z⟩)]; simp
                · rw [decide_eq_false h1]; rfl
              rw [this, Bool.or_false]
          · rw [(t2 p hp).2, pz_S]
            by_cases hq : c 3 p = j ∧ p = s
            · have := hno (by rw [← hq.2]; exact hq.1)
              rw [← hq.2] at this
              rw [this]
              simp
            · have : (decide (c 3 p = j) && decide (p = s)) = false := by
                by_cases h1 : c 3 p = j
                · rw [decide_eq_false (show ¬ p = s from fun z => hq ⟨h1, z⟩)]; simp
                · rw [decide_eq_false h1]; rfl
              rw [this, Bool.or_false]
        -- it is gone through
        have fill : c 3 s = j → cnD c d g s = true → wq (fX13_enter_b141 fu q (sI d) (sI e) (sL now) r94 r (sI j) (sI s) a L) Q := by
          intro hsj hcn
          have hks : c 2 s ≤ 1 := by
            have hcn' := hcn
            unfold cnD at hcn'
            by_cases hq : s = d
            · rw [hq]; omega
            · rw [if_neg hq] at hcn'
              exact (cm_in hT s (by omega) hcn').2.2
          have hpzs : pz c j s s = false := by
            unfold pz
            rw [decide_eq_false (show ¬ c 3 s < j by omega), decide_eq_false (show ¬ s < s by omega)]
            simp
          unfold fX13_enter_b141 fX13_enter_b148
          refine wq_b2 (m_fill (o := fun t => if pz c j s (c 1 t) = true then cmB c d g t else g 0 t) (g1 := g 1) (w := fun p => if (pz c j s p && cnD c d g p) = true then dqB c d g p else g 2 p) (by omega) hT aM t1 (fun p hp => (t2 p hp).1) (fun p hp => (t2 p hp).2) (fun p hp => (t3 _ _ (by omega)).trans (h5 p hp).2) hH (by omega) hdl hks) ?_
          rintro M1 L1 ⟨y1, y2, y3, y4⟩
          dsimp only at y1 y2 y3 y4
          subst y1
          simp only [mlet]
          rw [sI_1]
          have edq : ((if (pz c j s s && cnD c d g s) = true then dqB c d g s else g 2 s) || (decide (s ≠ d) && (if (pz c j s (c 1 s) && cnD c d g (c 1 s)) = true then dqB c d g (c 1 s) else g 2 (c 1 s)))) = dqB c d g s := by
            rw [hpzs, Bool.false_and, if_neg (by decide)]
            by_cases hsd : s = d
            · rw [decide_eq_false (fun z => z hsd), Bool.false_and, Bool.or_false]
              unfold dqB
              rw [if_pos hsd, hsd]
            · rw [decide_eq_true hsd, Bool.true_and]
              have hcm : cmB c d g s = true := by
                have := hcn
                unfold cnD at this
                rw [if_neg hsd] at this
                exact this
              have hs1 := (cm_in hT s (by omega) hcm).1
              have hpp := hT.2.2.2.2 s hs1 (by omega)
              have hcnp : cnD c d g (c 1 s) = true := by
                rw [cm_S hT hs1 (by omega)] at hcm
                simp only [Bool.and_eq_true] at hcm
                exact hcm.1
              have hpz : pz c j s (c 1 s) = true := by
                unfold pz
                rw [decide_eq_true (show c 3 (c 1 s) < j by omega)]
                rfl
              rw [hpz, hcnp, Bool.and_self, if_pos rfl]
              exact (dq_S hT hs1 (by omega) hsd).symm
          rw [edq] at y2 y3
          refine ih2 M1 ⟨fun t u1 u2 => ?_, fun p hp => ?_, fun a' y u => ?_⟩
          · rw [y3 t u1 u2, pz_S]
            by_cases htp : c 1 t = s
            · have hpzt : pz c j s (c 1 t) = false := by rw [htp]; exact hpzs
              have := fill_cm (o := fun t => if pz c j s (c 1 t) = true then cmB c d g t else g 0 t) hT hG hH hcn (show s ≤ c 0 0 by omega) hks (fun t' v1 v2 v3 => by rw [v3, hpzs, if_neg (by decide)]) u1 u2 htp
              rw [this, htp, decide_eq_true hsj, decide_eq_true rfl]
              simp
            · rw [decide_eq_false htp, Bool.and_false, Bool.or_false, Bool.false_and, Bool.or_false]
              congr 1
              by_cases hk1 : c 2 s = 1
              · rw [if_pos hk1]
              · rw [if_neg hk1]
                have : decide (t = pk2 c (g 1) s (dqB c d g s)) = false := by
                  refine decide_eq_false (fun z => htp ?_)
                  unfold pk2 at z
                  by_cases hc : (dqB c d g s || g 1 s) = true ∧ c 13 s ≠ 0
                  · rw [if_pos hc] at z
                    rcases hH s (by omega) with v | v
                    · omega
                    · rw [z]; exact v.2.2.1
                  · rw [if_neg hc] at z
                    rw [z]
                    exact (df_p (by omega)).2.2.1
                rw [this, Bool.or_false]
                split
                · rfl
                · rfl
          · by_cases hq : p = s
            · subst hq
              rw [y2, y4 _ _ (by omega) (by omega), pz_S, hcn, decide_eq_true hsj, decide_eq_true rfl]
              refine ⟨(t2 p hp).1, ?_⟩
              simp
            · rw [y4 _ _ (by omega) (by omega), y4 _ _ (by omega) (by omega), pz_S, decide_eq_false hq, Bool.and_false, Bool.or_false]
              exact t2 p hp
          · rw [y4 _ _ (by omega) (by omega)]; exact t3 a' y u
        unfold fX13_enter_i104 fX13_enter_b148
        simp (disch := omega) only [aM.1, e3, mck_s, sI_nn, nn_s, sI_lt, sI_le, sI_eq, sI_ltl, sI_lel, sI_eql, sI_llt, sI_lle, sI_1, bI_0, bI_1, bI_n, mlet, mb3_s, mb2_s]
        rw [if_neg (by omega)]
        by_cases hsj : c 3 s = j
        · rw [if_pos hsj]
          by_cases hsd : s = d
          · rw [if_pos hsd]
            exact fill hsj (by unfold cnD; rw [if_pos hsd])
          · rw [if_neg hsd]
            have hs1 : 1 ≤ s := by
              rcases Nat.eq_zero_or_pos s with v | v
              · exfalso
                rw [v, hT.2.2.2.1] at hsj
                have : d = 0 := by
                  rcases Nat.eq_zero_or_pos d with w | w
                  · exact w
                  · have := (hT.2.2.2.2 d w hdl).2.1
                    omega
                omega
              · exact v
            have hpp := hT.2.2.2.2 s hs1 (by omega)
            have e27 := t1 s hs1 (by omega)
            have hpz : pz c j s (c 1 s) = true := by
              unfold pz
              rw [decide_eq_true (show c 3 (c 1 s) < j by omega)]
              rfl
            rw [hpz, if_pos rfl] at e27
            simp (disch := omega) only [e27, mck_s, sI_nn, nn_s, sI_lt, sI_le, sI_eq, sI_ltl, sI_lel, sI_eql, sI_llt, sI_lle, sI_1, bI_0, bI_1, bI_n, mlet, mb3_s, mb2_s]
            cases hcm : cmB c d g s with
            | false =>
              rw [if_pos rfl]
              exact skip (fun _ => by unfold cnD; rw [if_neg hsd]; exact hcm)
            | true =>
              rw [if_neg (by decide)]
              exact fill hsj (by unfold cnD; rw [if_neg hsd]; exact hcm)
        · rw [if_neg hsj]
          exact skip (fun z => absurd z hsj)
      · intro a r ⟨t1, t2, t3⟩
        show wq (fX13_enter_i104 fu q (sI d) (sI e) (sL now) r94 r (sI j) (sI (c 0 0 + 1)) a L) _
        unfold fX13_enter_i104
        rw [t3 _ _ (by omega), hM.1, if_pos (by rw [sI_lt (by omega) (by omega)]; omega)]
        simp only [mlet]
        rw [sI_1]
        refine ih a ⟨by omega, fun t u1 u2 => ?_, fun p hp => ⟨(t2 p hp).1, ?_⟩, t3⟩
        · have hpt := (Tr_pa hT u2).1
          rw [t1 t u1 u2, pz_N (show c 1 t < c 0 0 + 1 by omega) (Nat.zero_le _)]
        · rw [(t2 p hp).2, pz_N (show p < c 0 0 + 1 by omega) (Nat.zero_le _)]
    · intro a r ⟨_, p1, p2, p3⟩
      show wq (fX13_enter_i94 fu q (sI d) (sI e) (sL now) r (sI 42) a L) _
      unfold fX13_enter_i94
      rw [if_pos (by decide)]
      refine last a (fun s u1 u2 => ?_) p3
      have hpp := (Tr_pa hT u2).1
      have hde := (Tr_pa hT hpp).2.2.2.2
      have hpz : pz c 42 0 (c 1 s) = true := by
        unfold pz
        rw [decide_eq_true (show c 3 (c 1 s) < 42 by omega)]
        rfl
      rw [p1 s u1 u2, hpz, if_pos rfl]
    · rw [(o1 t u2).1]
      by_cases hpz : pz c (c 3 d) 0 (c 1 t) = true
      · rw [if_pos hpz]
        have hcn : cnD c d g (c 1 t) = false := by
          by_cases hx : cnD c d g (c 1 t) = true
          · have h1 := cn_de hT (Tr_pa hT u2).1 hx
            unfold pz at hpz
            rw [decide_eq_false (show ¬ c 3 (c 1 t) < c 3 d by omega), decide_eq_false (show ¬ c 1 t < 0 by omega)] at hpz
            simp at hpz
          · simpa using hx
        have := no_cm hT hG hcn u1 u2 rfl
        rw [this.1, this.2]
      · rw [if_neg hpz]
    · rw [(o1 p hp).2.2]
      have : (pz c (c 3 d) 0 p && cnD c d g p) = false := by
        by_cases hx : cnD c d g p = true
        · have h1 := cn_de hT hp hx
          unfold pz
          rw [decide_eq_false (show ¬ c 3 p < c 3 d by omega), decide_eq_false (show ¬ p < 0 by omega)]
          simp
        · simp only [Bool.not_eq_true] at hx
          rw [hx]; simp
      rw [this, if_neg (by decide)]
  -- the aims
  have aims : ∀ B : mwM, GrM B q (c 0 0) (fun _ _ => false) → (∀ a y, ¬ (q + 27 ≤ a ∧ a ≤ q + 29) → B a y = M a y) → wq (fX13_enter_h45 fu q (sI d) (sI e) (sL now) fu (1, B, L)) Q := by
    intro B o1 o2
    by_cases he0 : e = 0
    · obtain ⟨f, hfu⟩ : ∃ f, fu = f + 1 := ⟨fu - 1, by omega⟩
      rw [if_pos he0] at hgg
      have hfin := fills B (by rw [hgg]; exact o1) o2
      have : wq (fX13_enter_h45 fu q (sI d) (sI e) (sL now) (f + 1) (1, B, L)) Q := by
        unfold fX13_enter_h45
        rw [mloop_S]
        show wq (fX13_enter_i45 fu q (sI d) (sI e) (sL now) _ 1 B L) Q
        unfold fX13_enter_i45
        exact wq_if (fun _ => hfin) (fun _ => by rw [if_pos (by rw [he0]; decide)]; exact hfin)
      rw [← hfu] at this
      exact this
    · have he1 : 1 ≤ e := by omega
      rw [if_neg he0] at hgg
      refine wq_for (body := fun r z => fX13_enter_i45 fu q (sI d) (sI e) (sL now) r z.1 z.2.1 z.2.2) (fun i (a : mwM) => (sI i, a, L)) (fun i a => 1 ≤ i ∧ GrM a q (c 0 0) (aiN c e d (i - 1)) ∧ ∀ a' y, ¬ (q + 27 ≤ a' ∧ a' ≤ q + 29) → a a' y = M a' y) (c 0 1 + 1) ?_ ?_ (c 0 1) 1 B fu (by omega) (by omega) ⟨Nat.le_refl _, o1, o2⟩
      · intro i a r hi ⟨hi1, p1, p2⟩ ih
        obtain ⟨n, rfl⟩ : ∃ n, i = n + 1 := ⟨i - 1, by omega⟩
        rw [Nat.add_sub_cancel] at p1
        simp only [show n + 1 + 1 - 1 = n + 1 from rfl] at ih
        show wq (fX13_enter_i45 fu q (sI d) (sI e) (sL now) r (sI (n + 1)) a L) _
        have aM : TrM a q (c 0 0) (c 1) (c 2) (c 3) := TrM_f hM (p2 _ _ (by omega)) (fun d s u1 u2 => p2 _ _ (by omega))
        have aE : EdM a q (c 0 1) (c 4) (c 5) (c 6) (c 7) := ⟨(p2 _ _ (by omega)).trans hEM.1, fun j u1 u2 => by simp (disch := omega) only [p2]; exact hEM.2 j u1 u2⟩
        obtain ⟨n1, n2, n3, n4, _⟩ := hE.2 (n + 1) (by omega) (by omega)
        have e11 := (aE.2 (n + 1) (by omega) (by omega)).2.1
        have es := m_sT (fu := fu) (L := L) hT aM hE aE he1 he (show 1 ≤ n + 1 by omega) (show n + 1 ≤ c 0 1 by omega)
        have eai : aiN c e d (n + 1) = if sT (c 2) (c 4) (c 5) e (n + 1) = true then aiF c d (aiN c e d n) (c 5 (n + 1)) else aiN c e d n := rfl
        unfold fX13_enter_i45 fX13_enter_b80
        simp (disch := omega) only [aE.1, es, e11, mck_s, sI_nn, nn_s, sI_lt, sI_le, sI_eq, sI_ltl, sI_lel, sI_eql, sI_llt, sI_lle, sI_1, bI_0, bI_1, bI_n, mlet, mb3_s, mb2_s]
        rw [if_neg (by omega), if_neg (by omega)]
        cases hs : sT (c 2) (c 4) (c 5) e (n + 1) with
        | false =>
          rw [if_pos rfl]
          rw [hs, if_neg (by decide)] at eai
          refine ih a ⟨by omega, ?_, p2⟩
          rw [eai]; exact p1
        | true =>
          rw [if_neg (by decide)]
          rw [hs, if_pos rfl] at eai
          refine wq_b2 (m_aim (by omega) hT aM p1 n3 n4 hdl (tg_in (by omega) (by omega) hs (hdg he1) hv)) ?_
          rintro M1 L1 ⟨y1, y2, y3⟩
          dsimp only at y1 y2 y3
          subst y1
          refine ih M1 ⟨by omega, ?_, fun a' y u => (y3 a' y u).trans (p2 a' y u)⟩
          rw [eai]; exact y2
      · intro a r ⟨_, p1, p2⟩
        show wq (fX13_enter_i45 fu q (sI d) (sI e) (sL now) r (sI (c 0 1 + 1)) a L) _
        rw [Nat.add_sub_cancel] at p1
        unfold fX13_enter_i45
        rw [p2 _ _ (by omega), hEM.1, if_pos (by rw [sI_lt (by omega) (by omega)]; omega)]
        exact fills a (by rw [hgg]; exact p1) p2
  unfold DX13_enter
  refine wq_for (body := fun r z => fX13_enter_i3 fu q (sI d) (sI e) (sL now) r z.1 z.2.1 z.2.2) (fun i (a : mwM) => (sI i, a, L)) (fun i a => (∀ s, s < i → a (q + 27) s = bI false ∧ a (q + 28) s = bI false ∧ a (q + 29) s = bI false) ∧ ∀ a' y, ¬ (q + 27 ≤ a' ∧ a' ≤ q + 29) → a a' y = M a' y) (c 0 0 + 1) ?_ ?_ (c 0 0 + 1) 0 M fu (by omega) (by omega) ⟨fun s hs => by omega, fun _ _ _ => rfl⟩
  · intro i a r hi ⟨p1, p2⟩ ih
    show wq (fX13_enter_i3 fu q (sI d) (sI e) (sL now) r (sI i) a L) _
    have e2 : a q 2 = sI (c 0 0) := (p2 _ _ (by omega)).trans hM.1
    unfold fX13_enter_i3
    simp (disch := omega) only [e2, b0, mck_s, sI_nn, nn_s, sI_lt, sI_le, sI_eq, sI_ltl, sI_lel, sI_eql, sI_llt, sI_lle, sI_1, bI_0, bI_1, bI_n, mlet, mb3_s, mb2_s]
    rw [if_neg (by omega)]
    refine ih _ ⟨fun s hs => ?_, fun a' y u => by simp (disch := omega) only [mset_n]; exact p2 a' y u⟩
    by_cases hq : s = i
    · subst hq
      simp (disch := omega) only [mset_n, mset_s, and_true, true_and]
    · simp (disch := omega) only [mset_n]
      exact p1 s (by omega)
  · intro a r ⟨p1, p2⟩
    show wq (fX13_enter_i3 fu q (sI d) (sI e) (sL now) r (sI (c 0 0 + 1)) a L) _
    have e2 : a q 2 = sI (c 0 0) := (p2 _ _ (by omega)).trans hM.1
    unfold fX13_enter_i3
    rw [e2, if_pos (by rw [sI_lt (by omega) (by omega)]; omega)]
    exact aims a (fun s hs => p1 s (by omega)) p2
