/-! the class enters, the second way through -/
def acD (c : Nat → Nat → Nat) (va : Nat → Int32) (w s : Nat) (D : Nat → Int64) : Nat → Int64 := dA (fun i => c (8 + i)) va w s D (c 0 2)
theorem tk_nd {l : List Nat} {n : Nat} (hn : n < l.length) (hd : List.Pairwise (fun a b => a ≠ b) l) : l[n] ∉ l.take n := by
  have e : l = l.take n ++ l[n] :: l.drop (n + 1) := by
    rw [← List.drop_eq_getElem_cons hn, List.take_append_drop]
  intro h
  rw [e, List.pairwise_append] at hd
  exact hd.2.2 _ h _ (List.mem_cons_self ..) rfl
theorem tk_S {l : List Nat} {n : Nat} (hn : n < l.length) : l.take (n + 1) = l.take n ++ [l[n]] := by
  rw [List.take_succ, List.getElem?_eq_getElem hn]
  rfl
theorem c_enterAll {fu : Nat} {A : mwM} {L : mwL} {k d now : Nat} {c : Nat → Nat → Nat} {b : Nat → Nat → Bool} {va : Nat → Int32} {D : Nat → Int64} {x : Nat → Int32} {ch : Nat → Nat} {g : Nat → Nat → Bool} {P : Nat → Nat} (hf : 601 ≤ fu) (hv : Cv c) (h : ReX ch k A L c b va D x) (hG : GoA c d g) (hg : GrC A k (c 0 0) g P) (hP : CkP c g P) (hdl : d ≤ c 0 0) (hhi : ∀ s, s ≤ c 0 0 → c 13 s ≤ c 0 0) (hnow : A k 12 = sI now) : wq (DX2_enterAll fu k (sI d) A L) (fun z => ReX (chE c (cmB c d g) ch) k z.1 z.2 (ent c (cmB c d g) now) (enb b (cmB c d g)) va (alo (cmB c d g) (acD c va 0) (riL (c 3) (c 0 0) 42) D) x ∧ (∀ a y, ¬ (a = k + 7 ∨ a = k + 8 ∨ (k + 10 ≤ a ∧ a ≤ k + 14) ∨ a = k + 17) → z.1 a y = A a y) ∧ ∀ a, a ≠ k + 34 → z.2 a = L a) := by
  have hT := hv.1
  have hN := hT.1
  obtain ⟨hC, hEC, hXC, hf4, h5, h6, h7, h8⟩ := h
  refine c_coming (by omega) hT hC hG hg hP hdl (fun s hs => (h5 s hs).2.1) (fun s hs => ⟨(h5 s hs).2.2.2, hhi s hs⟩) ?_
  intro B o1 o2
  generalize hcm : cmB c d g = cm at *
  have hl := ri_len hT
  have hnd := ri_nd (de := c 3) (N := c 0 0) 42
  have hmm : ∀ s, 1 ≤ s → s ≤ c 0 0 → s ∈ riL (c 3) (c 0 0) 42 := fun s u1 u2 => (ri_mem 42).mpr ⟨u1, u2, by have := (hT.2.2.2.2 s u1 u2).2.2.1; omega⟩
  have hmr : ∀ s, s ∈ riL (c 3) (c 0 0) 42 → 1 ≤ s ∧ s ≤ c 0 0 := fun s hs => ⟨((ri_mem 42).mp hs).1, ((ri_mem 42).mp hs).2.1⟩
  have h7' := h7.1
  have hun : ∀ s t, s ≤ c 0 0 → t ≤ c 0 0 → cm s = true → cm t = true → c 1 s = c 1 t → c 2 (c 1 s) = 0 → s = t := by
    intro s t u1 u2 u3 u4 u5 u6
    rw [← hcm] at u3 u4
    exact cm_uniq hT u1 u2 u3 u4 u5 u6
  generalize hl0 : riL (c 3) (c 0 0) 42 = l0 at *
  refine wq_for (body := fun r z => fX2_enterAll_i164 fu k (sI d) r z.1 z.2.1 z.2.2) (fun i (w : mwM × mwL) => (sI i, w.1, w.2)) (fun i w => 1 ≤ i ∧ (∀ s, 1 ≤ s → s ≤ c 0 0 → w.1 (k + 7) s = bI (b 0 s || (cm s && decide (s ∈ l0.take (i - 1)))) ∧ w.1 (k + 17) s = bI (b 2 s || (cm s && decide (s ∈ l0.take (i - 1)))) ∧ w.1 (k + 10) s = sI (if (cm s && decide (s ∈ l0.take (i - 1))) = true then now else c 14 s) ∧ w.1 (k + 11) s = bI (b 1 s && !(cm s && decide (s ∈ l0.take (i - 1))))) ∧ (∀ p, p ≤ c 0 0 → (∀ t, t ∈ l0.take (i - 1) → cm t = true → c 1 t = p → c 2 p = 0 → w.1 (k + 8) p = sI t) ∧ ((∀ t, t ∈ l0.take (i - 1) → cm t = true → c 1 t = p → c 2 p ≠ 0) → w.1 (k + 8) p = sI (ch p))) ∧ w.2 (k + 34) = alo cm (acD c va 0) (l0.take (i - 1)) D ∧ (∀ a, a ≠ k + 34 → w.2 a = L a) ∧ ∀ a y, ¬ (a = k + 7 ∨ a = k + 8 ∨ a = k + 10 ∨ a = k + 11 ∨ a = k + 17) → w.1 a y = B a y) (c 0 0 + 1) ?_ ?_ (c 0 0) 1 (B, L) fu (by omega) (by omega) ⟨Nat.le_refl _, ?_, ?_, hf4.2.2.2.2.2, fun _ _ => rfl, fun _ _ _ => rfl⟩
  · rintro i ⟨a, l⟩ r hi ⟨hi1, q1, q2, q3, q4, q5⟩ ih
    dsimp only at q1 q2 q3 q4 q5
    obtain ⟨n, rfl⟩ : ∃ n, i = n + 1 := ⟨i - 1, by omega⟩
    rw [Nat.add_sub_cancel] at q1 q2 q3
    show wq (fX2_enterAll_i164 fu k (sI d) r (sI (n + 1)) a l) _
    have key := fun (X : mwM) (Y : mwL) => ih (X, Y)
    dsimp only at key
    simp only [show n + 1 + 1 - 1 = n + 1 from rfl] at key
    have hn : n < l0.length := by omega
    rw [tk_S hn] at key
    have hnin := tk_nd hn hnd
    have hget := List.getElem?_eq_getElem hn
    generalize hs : l0[n] = s at *
    have hsr := hmr s (by rw [← hs]; exact List.getElem_mem hn)
    generalize hpre : l0.take n = pre at *
    obtain ⟨w1, w2, w3, w4, w5⟩ := hT.2.2.2.2 s hsr.1 hsr.2
    have e18 : a (k + 18) (n + 1) = sI s := by
      rw [q5 _ _ (by omega), o2 _ _ (by omega) (by omega) (by omega)]
      exact h7' n s hget
    have e14 : a (k + 14) s = bI (cm s) := by rw [q5 _ _ (by omega)]; exact o1 s hsr.2
    have e7 : a k 7 = sI (c 0 0) := by rw [q5 _ _ (by omega), o2 _ _ (by omega) (by omega) (by omega)]; exact hC.1
    have e12 : a k 12 = sI now := by rw [q5 _ _ (by omega), o2 _ _ (by omega) (by omega) (by omega)]; exact hnow
    have e2 : a (k + 2) s = sI (c 1 s) := by rw [q5 _ _ (by omega), o2 _ _ (by omega) (by omega) (by omega)]; exact (hC.2 s hsr.2).1
    have e3 : a (k + 3) (c 1 s) = sI (c 2 (c 1 s)) := by rw [q5 _ _ (by omega), o2 _ _ (by omega) (by omega) (by omega)]; exact (hC.2 _ (by omega)).2.1
    have eal : ∀ D0, alo cm (acD c va 0) (pre ++ [s]) D0 = if cm s = true then acD c va 0 s (alo cm (acD c va 0) pre D0) else alo cm (acD c va 0) pre D0 := fun D0 => by
      rw [alo_app]
      rfl
    have dmem : ∀ t, decide (t ∈ pre ++ [s]) = (decide (t ∈ pre) || decide (t = s)) := by
      intro t
      rw [Bool.eq_iff_iff]
      simp
    unfold fX2_enterAll_i164 fX2_enterAll_b272 fX2_enterAll_b278
    simp (disch := omega) only [e7, e18, e14, e12, e2, e3, mset_n, mck_s, sI_nn, nn_s, sI_lt, sI_le, sI_eq, sI_ltl, sI_lel, sI_eql, sI_llt, sI_lle, sI_1, bI_0, bI_1, bI_n, mlet, mb3_s, mb2_s]
    rw [if_neg (by omega)]
    cases hc : cm s with
    | false =>
      rw [if_neg (by decide)]
      refine key a l ⟨by omega, fun t u1 u2 => ?_, fun p hp => ?_, ?_, q4, q5⟩
      · have := q1 t u1 u2
        rw [dmem]
        by_cases hts : t = s
        · rw [hts] at this ⊢
          rw [hc] at this ⊢
          simpa using this
        · rw [decide_eq_false hts, Bool.or_false]
          exact this
      · have := q2 p hp
        refine ⟨fun t ht => ?_, fun ht => this.2 (fun t ht2 => ht t (List.mem_append_left _ ht2))⟩
        rw [List.mem_append, List.mem_singleton] at ht
        rcases ht with ht | rfl
        · exact this.1 t ht
        · intro hx
          rw [hc] at hx
          cases hx
      · rw [eal, hc, if_neg (by decide)]
        exact q3
    | true =>
      rw [if_pos rfl]
      have aX : ∀ G : mwM, (∀ a' y, ¬ (a' = k + 7 ∨ a' = k + 8 ∨ a' = k + 10 ∨ a' = k + 11 ∨ a' = k + 17) → G a' y = a a' y) → AxC G k (c 0 2) (fun i => c (8 + i)) va := by
        intro G hG2
        refine ⟨?_, fun i hi => ?_⟩
        · simp (disch := omega) only [hG2, q5, o2]; exact hXC.1
        · simp (disch := omega) only [hG2, q5, o2]; exact hXC.2 i hi
      have go : ∀ G : mwM, (∀ a' y, ¬ (y = s ∧ (a' = k + 7 ∨ a' = k + 10 ∨ a' = k + 11 ∨ a' = k + 17)) → ¬ (a' = k + 8 ∧ y = c 1 s) → G a' y = a a' y) → G (k + 7) s = 1 → G (k + 17) s = 1 → G (k + 10) s = sI now → G (k + 11) s = 0 → (c 2 (c 1 s) = 0 → G (k + 8) (c 1 s) = sI s) → (c 2 (c 1 s) ≠ 0 → G (k + 8) (c 1 s) = a (k + 8) (c 1 s)) → wq (mb2 (DX2_doActs fu k 0 (sI s) G l) (fun M63 L64 => r (sI (n + 1 + 1), M63, L64))) (fun z => ReX (chE c cm ch) k z.1 z.2 (ent c cm now) (enb b cm) va (alo cm (acD c va 0) l0 D) x ∧ (∀ a y, ¬ (a = k + 7 ∨ a = k + 8 ∨ (k + 10 ≤ a ∧ a ≤ k + 14) ∨ a = k + 17) → z.1 a y = A a y) ∧ ∀ a, a ≠ k + 34 → z.2 a = L a) := by
        intro G g0 g1 g2 g3 g4 g5 g6
        refine wq_b2 (c_doActs (w := 0) (o := s) (n := c 0 2) (by omega) hv.2.2.1 (aX G (fun a' y u => g0 a' y (by omega) (by omega))) (by omega) (by omega)) ?_
        rintro M1 L1 ⟨y1, y2, y3⟩
        dsimp only at y1 y2 y3
        subst y1
        refine key M1 L1 ⟨by omega, fun t u1 u2 => ?_, fun p hp => ?_, ?_, fun a' u => (y3 a' u).trans (q4 a' u), fun a' y u => (g0 a' y (by omega) (by omega)).trans (q5 a' y u)⟩
        · have := q1 t u1 u2
          rw [dmem]
          by_cases hts : t = s
          · subst hts
            rw [hc, decide_eq_true rfl, g1, g2, g3, g4]
            simp [bI]
          · rw [decide_eq_false hts, Bool.or_false, g0 _ _ (by omega) (by omega), g0 _ _ (by omega) (by omega), g0 _ _ (by omega) (by omega), g0 _ _ (by omega) (by omega)]
            exact this
        · have := q2 p hp
          refine ⟨fun t ht hct htp hk => ?_, fun ht => ?_⟩
          · rw [List.mem_append, List.mem_singleton] at ht
            rcases ht with ht | rfl
            · by_cases hps : c 1 s = p
              · have htr := hmr t (by rw [← hpre] at ht; exact List.mem_of_mem_take ht)
                have := hun t s htr.2 hsr.2 hct hc (by omega) (by rw [htp]; exact hk)
                rw [this, ← hps]
                exact g5 (by rw [hps]; exact hk)
              · rw [g0 _ _ (by omega) (by omega)]
                exact this.1 t ht hct htp hk
            · rw [← htp]
              exact g5 (by rw [htp]; exact hk)
          · by_cases hps : c 1 s = p
            · have hk := ht s (List.mem_append_right _ (List.mem_singleton.mpr rfl)) hc hps
              have g6' := g6 (by rw [hps]; exact hk)
              rw [hps] at g6'
              rw [g6']
              exact this.2 (fun t ht2 => ht t (List.mem_append_left _ ht2))
            · rw [g0 _ _ (by omega) (by omega)]
              exact this.2 (fun t ht2 => ht t (List.mem_append_left _ ht2))
        · rw [eal, hc, if_pos rfl, y2, q3]
          rfl
      by_cases hk : c 2 (c 1 s) = 0
      · rw [if_pos hk]
        refine go _ ?_ ?_ ?_ ?_ ?_ ?_ ?_
        · intro a' y u1 u2
          simp (disch := omega) only [mset_n]
        all_goals (try (simp (disch := omega) only [mset_n, mset_s]))
        · intro _; trivial
        · intro z; exact absurd hk z
      · rw [if_neg hk]
        refine go _ ?_ ?_ ?_ ?_ ?_ ?_ ?_
        · intro a' y u1 u2
          simp (disch := omega) only [mset_n]
        all_goals (try (simp (disch := omega) only [mset_n, mset_s]))
        · intro z; exact absurd z hk
        · intro _; trivial
  · rintro ⟨a, l⟩ r ⟨_, q1, q2, q3, q4, q5⟩
    dsimp only at q1 q2 q3 q4 q5
    rw [Nat.add_sub_cancel, List.take_of_length_le (show l0.length ≤ c 0 0 by omega)] at q1 q2 q3
    show wq (fX2_enterAll_i164 fu k (sI d) r (sI (c 0 0 + 1)) a l) _
    have e7 : a k 7 = sI (c 0 0) := by rw [q5 _ _ (by omega), o2 _ _ (by omega) (by omega) (by omega)]; exact hC.1
    have fr : ∀ a' y, ¬ (a' = k + 7 ∨ a' = k + 8 ∨ (k + 10 ≤ a' ∧ a' ≤ k + 14) ∨ a' = k + 17) → a a' y = A a' y := fun a' y u => by rw [q5 _ _ (by omega), o2 _ _ (by omega) (by omega) (by omega)]
    unfold fX2_enterAll_i164
    rw [e7, if_pos (by rw [sI_lt (by omega) (by omega)]; omega)]
    refine wq_some ⟨?_, fr, q4⟩
    dsimp only
    have ec : ∀ i, i ≠ 14 → ent c cm now i = c i := by
      intro i hi
      funext j
      unfold ent
      rw [if_neg (fun z => hi z.1)]
    have eb : ∀ i, 3 ≤ i → enb b cm i = b i := by
      intro i hi
      funext j
      unfold enb
      rw [if_neg (by omega), if_neg (by omega), if_neg (by omega)]
    unfold ReX
    rw [ec 0 (by omega), ec 1 (by omega), ec 2 (by omega), ec 3 (by omega), ec 4 (by omega), ec 5 (by omega), ec 6 (by omega), ec 7 (by omega), ec 12 (by omega), ec 13 (by omega), eb 3 (by omega), eb 4 (by omega), eb 5 (by omega), eb 6 (by omega)]
    refine ⟨TrC_f hC (fr _ _ (by omega)) (fun a s u1 u2 => fr _ _ (by omega)), ?_, ?_, ?_, ?_, ?_, ?_, ?_⟩
    · refine ⟨?_, fun e u1 u2 => ?_⟩
      · simp (disch := omega) only [fr]; exact hEC.1
      · simp (disch := omega) only [fr]; exact hEC.2 e u1 u2
    · refine ⟨?_, fun i hi => ?_⟩
      · simp (disch := omega) only [fr]; exact hXC.1
      · have := hXC.2 i hi
        dsimp only at this ⊢
        rw [ec _ (by omega), ec _ (by omega), ec _ (by omega), ec _ (by omega)]
        simp (disch := omega) only [fr]; exact this
    · rw [q3]
      simp (disch := omega) only [fr]
      exact ⟨hf4.1, hf4.2.1, hf4.2.2.1, hf4.2.2.2.1, hf4.2.2.2.2.1, trivial⟩
    · intro s hs
      have := h5 s hs
      rw [fr (k + 5) s (by omega), fr (k + 6) s (by omega), fr (k + 9) s (by omega)]
      refine ⟨this.1, this.2.1, ?_, this.2.2.2⟩
      unfold chE
      by_cases hx : c 2 s = 0 ∧ fstN (fun t => decide (c 1 t = s) && cm t) (c 0 0) 1 ≠ 0
      · rw [if_pos hx]
        have hp := fst_p _ _ (by omega) hx.2
        simp only [Bool.and_eq_true, decide_eq_true_eq] at hp
        exact (q2 s hs).1 _ (hmm _ hp.2.1 (by omega)) hp.1.2 hp.1.1 hx.1
      · rw [if_neg hx]
        refine (q2 s hs).2 (fun t ht hct htp hk => ?_)
        have htr := hmr t ht
        have hz : fstN (fun t => decide (c 1 t = s) && cm t) (c 0 0) 1 = 0 := by
          rcases Nat.eq_zero_or_pos (fstN (fun t => decide (c 1 t = s) && cm t) (c 0 0) 1) with z | z
          · exact z
          · exact absurd ⟨hk, by omega⟩ hx
        have := fst_n _ _ (by omega) hz t htr.1 (by omega)
        rw [hct, decide_eq_true htp] at this
        cases this
    · intro s u1 hs
      have := q1 s u1 hs
      rw [decide_eq_true (hmm s u1 hs), Bool.and_true] at this
      refine ⟨this.1, ?_, this.2.2.2, this.2.1⟩
      rw [this.2.2.1]
      unfold ent
      by_cases hq : cm s = true
      · rw [if_pos hq, if_pos ⟨rfl, hq⟩]
      · rw [if_neg hq, if_neg (fun z => hq z.2)]
    · refine ⟨fun i v hv => ?_, fun i v hv => ?_⟩
      · rw [hl0] at hv
        rw [fr _ _ (by omega)]
        exact h7.1 i v hv
      · rw [fr _ _ (by omega)]; exact h7.2 i v hv
    · intro e u1 u2
      rw [fr _ _ (by omega)]; exact h8 e u1 u2
  · intro s u1 u2
    have := h6 s u1 u2
    dsimp only
    rw [o2 _ _ (by omega) (by omega) (by omega), o2 _ _ (by omega) (by omega) (by omega), o2 _ _ (by omega) (by omega) (by omega), o2 _ _ (by omega) (by omega) (by omega)]
    simp only [show (1 : Nat) - 1 = 0 from rfl, List.take_zero, List.not_mem_nil, decide_false, Bool.and_false, Bool.or_false, Bool.not_false, Bool.and_true]
    refine ⟨this.1, this.2.2.2, ?_, this.2.2.1⟩
    rw [if_neg (by decide)]
    exact this.2.1
  · intro p hp
    dsimp only
    rw [o2 _ _ (by omega) (by omega) (by omega)]
    exact ⟨fun t ht => absurd ht (by simp), fun _ => (h5 p hp).2.2.1⟩
