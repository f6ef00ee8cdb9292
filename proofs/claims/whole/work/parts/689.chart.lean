/-! the class leaves -/
theorem c_leaveAll {fu : Nat} {A : mwM} {L : mwL} {k d : Nat} {c : Nat → Nat → Nat} {b : Nat → Nat → Bool} {va : Nat → Int32} {D : Nat → Int64} {x : Nat → Int32} (hf : 601 ≤ fu) (hv : Cv c) (h : ReC k A L c b va D x) (hdl : d ≤ c 0 0) (hz : ∀ s, 1 ≤ s → s ≤ c 0 0 → b 0 s = true → c 2 s = 0 → chF (c 1) (c 2) (c 0 0) (b 0) s = 0 → c 13 s = 0) : wq (DX2_leaveAll fu k (sI d) A L) (fun z => ReX (fun s => if exB (c 1) (c 3) (b 0) d s = true then 0 else chK c b s) k z.1 z.2 (lvC c b d) (lvB c b d) va (alo (exB (c 1) (c 3) (b 0) d) (acD c va 1) (faL (c 3) (c 0 0) 41) D) x ∧ (∀ a y, ¬ (k + 7 ≤ a ∧ a ≤ k + 9) → a ≠ k + 16 → z.1 a y = A a y) ∧ ∀ a, a ≠ k + 34 → z.2 a = L a) := by
  have hT := hv.1
  have hN := hT.1
  obtain ⟨hC, hEC, hXC, hf4, h5, h6, h7, h8⟩ := h
  have hl := fa_len hT
  have hnd := fa_nd (de := c 3) (N := c 0 0) 41
  have hmm : ∀ s, 1 ≤ s → s ≤ c 0 0 → s ∈ faL (c 3) (c 0 0) 41 := fun s u1 u2 => (fa_mem 41).mpr ⟨u1, u2, by have := (hT.2.2.2.2 s u1 u2); omega⟩
  have hmr : ∀ s, s ∈ faL (c 3) (c 0 0) 41 → 1 ≤ s ∧ s ≤ c 0 0 := fun s hs => ⟨((fa_mem 41).mp hs).1, ((fa_mem 41).mp hs).2.1⟩
  have ckl : ∀ s, chK c b s ≤ c 0 0 := by
    intro s
    unfold chK
    split
    · exact ch_le
    · omega
  -- what is left behind
  have eC : ∀ s, 1 ≤ s → s ≤ c 0 0 → exB (c 1) (c 3) (b 0) d s = true → lvC c b d 13 s = if chK c b s = 0 then c 13 s else chK c b s := by
    intro s u1 u2 u3
    have hb : b 0 s = true := by
      unfold exB at u3
      rw [Bool.and_eq_true] at u3
      exact u3.1
    unfold lvC
    by_cases hk : c 2 s = 0
    · have e : chK c b s = chF (c 1) (c 2) (c 0 0) (b 0) s := by
        unfold chK
        rw [if_pos ⟨hk, Or.inr hb⟩]
      rw [if_pos ⟨rfl, u3, hk⟩, e]
      by_cases hq : chF (c 1) (c 2) (c 0 0) (b 0) s = 0
      · rw [if_pos hq, hq, hz s u1 u2 hb hk hq]
      · rw [if_neg hq]
    · have e : chK c b s = 0 := by
        unfold chK
        rw [if_neg (fun w => hk w.1)]
      rw [if_neg (fun w => hk w.2.2), e, if_pos rfl]
  have eC0 : ∀ s, exB (c 1) (c 3) (b 0) d s = false → lvC c b d 13 s = c 13 s := by
    intro s u
    unfold lvC
    rw [if_neg (fun w => by rw [u] at w; cases w.2.1)]
  have h19 := h7.2
  generalize hl0 : faL (c 3) (c 0 0) 41 = l0 at *
  unfold DX2_leaveAll
  refine wq_b2 (c_markInside (by omega) hT hC hdl) ?_
  rintro B L1 ⟨y1, y2, y3⟩
  dsimp only at y1 y2 y3
  subst y1
  refine wq_for (body := fun r z => fX2_leaveAll_i7 fu k (sI d) r z.1 z.2.1 z.2.2) (fun i (w : mwM × mwL) => (sI i, w.1, w.2)) (fun i w => 1 ≤ i ∧ (∀ s, s ≤ c 0 0 → (1 ≤ s → w.1 (k + 7) s = bI (b 0 s && !(exB (c 1) (c 3) (b 0) d s && decide (s ∈ l0.take (i - 1))))) ∧ w.1 (k + 8) s = sI (if (exB (c 1) (c 3) (b 0) d s && decide (s ∈ l0.take (i - 1))) = true then 0 else chK c b s) ∧ w.1 (k + 9) s = sI (if (exB (c 1) (c 3) (b 0) d s && decide (s ∈ l0.take (i - 1))) = true then lvC c b d 13 s else c 13 s)) ∧ w.2 (k + 34) = alo (exB (c 1) (c 3) (b 0) d) (acD c va 1) (l0.take (i - 1)) D ∧ (∀ a, a ≠ k + 34 → w.2 a = L1 a) ∧ ∀ a y, ¬ (k + 7 ≤ a ∧ a ≤ k + 9) → w.1 a y = B a y) (c 0 0 + 1) ?_ ?_ (c 0 0) 1 (B, L1) fu (by omega) (by omega) ⟨Nat.le_refl _, ?_, hf4.2.2.2.2.2, fun _ _ => rfl, fun _ _ _ => rfl⟩
  · rintro i ⟨a, l⟩ r hi ⟨hi1, q1, q3, q4, q5⟩ ih
    dsimp only at q1 q3 q4 q5
    obtain ⟨n, rfl⟩ : ∃ n, i = n + 1 := ⟨i - 1, by omega⟩
    rw [Nat.add_sub_cancel] at q1 q3
    show wq (fX2_leaveAll_i7 fu k (sI d) r (sI (n + 1)) a l) _
    have key := fun (X : mwM) (Y : mwL) => ih (X, Y)
    dsimp only at key
    simp only [show n + 1 + 1 - 1 = n + 1 from rfl] at key
    have hn : n < l0.length := by omega
    rw [tk_S hn] at key
    have hnin := tk_nd hn hnd
    have hget := List.getElem?_eq_getElem hn
    generalize hs : l0[n] = s at *
    have hsr := hmr s (by rw [← hs]; exact List.getElem_mem hn)
    generalize hpre : l0.take n = pre at *
    have e19 : a (k + 19) (n + 1) = sI s := by
      rw [q5 _ _ (by omega), y3 _ _ (by omega)]
      exact h19 n s hget
    have e16 : a (k + 16) s = bI (insB (c 1) (c 3) d s) := by rw [q5 _ _ (by omega)]; exact y2 s hsr.2
    have e7 : a k 7 = sI (c 0 0) := by rw [q5 _ _ (by omega), y3 _ _ (by omega)]; exact hC.1
    have dn : decide (s ∈ pre) = false := decide_eq_false hnin
    have qs := q1 s hsr.2
    rw [dn, Bool.and_false] at qs
    have eA : a (k + 7) s = bI (b 0 s) := by
      rw [qs.1 hsr.1]
      simp
    have eK : a (k + 8) s = sI (chK c b s) := by
      rw [qs.2.1, if_neg (by decide)]
    have eH : a (k + 9) s = sI (c 13 s) := by
      rw [qs.2.2, if_neg (by decide)]
    have hck := ckl s
    have eal : ∀ D0, alo (exB (c 1) (c 3) (b 0) d) (acD c va 1) (pre ++ [s]) D0 = if exB (c 1) (c 3) (b 0) d s = true then acD c va 1 s (alo (exB (c 1) (c 3) (b 0) d) (acD c va 1) pre D0) else alo (exB (c 1) (c 3) (b 0) d) (acD c va 1) pre D0 := fun D0 => by
      rw [alo_app]
      rfl
    have dmem : ∀ t, decide (t ∈ pre ++ [s]) = (decide (t ∈ pre) || decide (t = s)) := by
      intro t
      rw [Bool.eq_iff_iff]
      simp
    have skip : exB (c 1) (c 3) (b 0) d s = false → wq (r (sI (n + 1 + 1), a, l)) (fun z => ReX (fun s => if exB (c 1) (c 3) (b 0) d s = true then 0 else chK c b s) k z.1 z.2 (lvC c b d) (lvB c b d) va (alo (exB (c 1) (c 3) (b 0) d) (acD c va 1) l0 D) x ∧ (∀ a y, ¬ (k + 7 ≤ a ∧ a ≤ k + 9) → a ≠ k + 16 → z.1 a y = A a y) ∧ ∀ a, a ≠ k + 34 → z.2 a = L1 a) := by
      intro hx
      refine key a l ⟨by omega, fun t u2 => ?_, ?_, q4, q5⟩
      · have := q1 t u2
        rw [dmem]
        by_cases hts : t = s
        · rw [hts] at this ⊢
          rw [hx] at this ⊢
          exact this
        · rw [decide_eq_false hts, Bool.or_false]
          exact this
      · rw [eal, hx, if_neg (by decide)]
        exact q3
    unfold fX2_leaveAll_i7 fX2_leaveAll_b105
    simp (disch := omega) only [e7, e19, e16, eA, eK, mck_s, sI_nn, nn_s, sI_lt, sI_le, sI_eq, sI_ltl, sI_lel, sI_eql, sI_llt, sI_lle, sI_1, bI_0, bI_1, bI_n, mlet, mb3_s, mb2_s]
    rw [if_neg (by omega)]
    cases hi1 : insB (c 1) (c 3) d s with
    | false =>
      rw [if_neg (by decide)]
      exact skip (by unfold exB; rw [hi1]; simp)
    | true =>
      rw [if_pos rfl]
      cases hb1 : b 0 s with
      | false =>
        rw [if_neg (by decide)]
        exact skip (by unfold exB; rw [hb1]; rfl)
      | true =>
        rw [if_pos rfl]
        have hx : exB (c 1) (c 3) (b 0) d s = true := by unfold exB; rw [hi1, hb1]; rfl
        have b80 : ∀ G : mwM, (∀ a' y, ¬ (a' = k + 9 ∧ y = s) → G a' y = a a' y) → G (k + 9) s = sI (lvC c b d 13 s) → wq (fX2_leaveAll_b80 fu k (sI d) r (sI (n + 1)) (sI s) G l) (fun z => ReX (fun s => if exB (c 1) (c 3) (b 0) d s = true then 0 else chK c b s) k z.1 z.2 (lvC c b d) (lvB c b d) va (alo (exB (c 1) (c 3) (b 0) d) (acD c va 1) l0 D) x ∧ (∀ a y, ¬ (k + 7 ≤ a ∧ a ≤ k + 9) → a ≠ k + 16 → z.1 a y = A a y) ∧ ∀ a, a ≠ k + 34 → z.2 a = L1 a) := by
          intro G g1 g2
          unfold fX2_leaveAll_b80 fX2_leaveAll_b105
          simp (disch := omega) only [mck_s, sI_nn, nn_s, sI_lt, sI_le, sI_eq, sI_ltl, sI_lel, sI_eql, sI_llt, sI_lle, sI_1, bI_0, bI_1, bI_n, mlet, mb3_s, mb2_s]
          refine wq_b2 (c_doActs (w := 1) (o := s) (n := c 0 2) (ax := fun i => c (8 + i)) (va := va) (by omega) hv.2.2.1 ⟨?_, fun i hi => ?_⟩ (by omega) (by omega)) ?_
          · simp (disch := omega) only [mset_n, g1, q5, y3]; exact hXC.1
          · simp (disch := omega) only [mset_n, g1, q5, y3]; exact hXC.2 i hi
          rintro M1 L2 ⟨z1, z2, z3⟩
          dsimp only at z1 z2 z3
          subst z1
          refine key _ L2 ⟨by omega, fun t u2 => ?_, ?_, fun a' u => (z3 a' u).trans (q4 a' u), fun a' y u => ?_⟩
          · have := q1 t u2
            rw [dmem]
            by_cases hts : t = s
            · subst hts
              rw [hx, decide_eq_true rfl, Bool.or_true, Bool.and_true, if_pos rfl, if_pos rfl]
              simp (disch := omega) only [mset_n, mset_s, g2]
              refine ⟨fun _ => ?_, rfl, trivial⟩
              simp [bI]
            · rw [decide_eq_false hts, Bool.or_false]
              simp (disch := omega) only [mset_n, g1]
              exact this
          · rw [eal, hx, if_pos rfl, z2, q3]
            rfl
          · simp (disch := omega) only [mset_n, g1]; exact q5 a' y u
        by_cases hk0 : chK c b s = 0
        · rw [if_pos hk0]
          refine b80 a (fun _ _ _ => rfl) ?_
          rw [eC s hsr.1 hsr.2 hx, if_pos hk0]
          exact eH
        · rw [if_neg hk0]
          refine b80 _ (fun a' y u => mset_n u) ?_
          rw [eC s hsr.1 hsr.2 hx, if_neg hk0, mset_s]
  · rintro ⟨a, l⟩ r ⟨_, q1, q3, q4, q5⟩
    dsimp only at q1 q3 q4 q5
    rw [Nat.add_sub_cancel, List.take_of_length_le (show l0.length ≤ c 0 0 by omega)] at q1 q3
    show wq (fX2_leaveAll_i7 fu k (sI d) r (sI (c 0 0 + 1)) a l) _
    have fr : ∀ a' y, ¬ (k + 7 ≤ a' ∧ a' ≤ k + 9) → a' ≠ k + 16 → a a' y = A a' y := fun a' y u1 u2 => by rw [q5 _ _ u1, y3 _ _ u2]
    unfold fX2_leaveAll_i7
    rw [fr _ _ (by omega) (by omega), hC.1, if_pos (by rw [sI_lt (by omega) (by omega)]; omega)]
    refine wq_some ⟨?_, fr, q4⟩
    dsimp only
    have e3 : ∀ r, 1 ≤ r → lvB c b d r = b r := by
      intro r hr
      funext s
      unfold lvB
      rw [if_neg (by omega)]
    unfold ReX
    rw [lvC_r (i := 0) (by omega), lvC_r (i := 1) (by omega), lvC_r (i := 2) (by omega), lvC_r (i := 3) (by omega), lvC_r (i := 4) (by omega), lvC_r (i := 5) (by omega), lvC_r (i := 6) (by omega), lvC_r (i := 7) (by omega), lvC_r (i := 12) (by omega), lvC_r (i := 14) (by omega), e3 1 (by omega), e3 2 (by omega), e3 3 (by omega), e3 4 (by omega), e3 5 (by omega), e3 6 (by omega)]
    have pd : ∀ s, s ≤ c 0 0 → (exB (c 1) (c 3) (b 0) d s && decide (s ∈ l0)) = exB (c 1) (c 3) (b 0) d s := by
      intro s hs
      rcases Nat.eq_zero_or_pos s with w | w
      · have : exB (c 1) (c 3) (b 0) d s = false := by
          unfold exB
          rw [w, ins_0 hT]
          simp
        rw [this]; rfl
      · rw [decide_eq_true (hmm s w hs), Bool.and_true]
    refine ⟨TrC_f hC (fr _ _ (by omega) (by omega)) (fun a s u1 u2 => fr _ _ (by omega) (by omega)), ?_, ?_, ?_, ?_, ?_, ?_, ?_⟩
    · refine ⟨?_, fun e u1 u2 => ?_⟩
      · simp (disch := omega) only [fr]; exact hEC.1
      · simp (disch := omega) only [fr]; exact hEC.2 e u1 u2
    · refine ⟨?_, fun i hi => ?_⟩
      · simp (disch := omega) only [fr]; exact hXC.1
      · have := hXC.2 i hi
        dsimp only at this ⊢
        rw [lvC_r (by omega), lvC_r (by omega), lvC_r (by omega), lvC_r (by omega)]
        simp (disch := omega) only [fr]; exact this
    · rw [q3]
      simp (disch := omega) only [fr]
      exact ⟨hf4.1, hf4.2.1, hf4.2.2.1, hf4.2.2.2.1, hf4.2.2.2.2.1, trivial⟩
    · intro s hs
      have := h5 s hs
      have w := q1 s hs
      rw [pd s hs] at w
      rw [fr (k + 5) s (by omega) (by omega), fr (k + 6) s (by omega) (by omega)]
      refine ⟨this.1, this.2.1, w.2.1, ?_⟩
      rw [w.2.2]
      by_cases hx : exB (c 1) (c 3) (b 0) d s = true
      · rw [if_pos hx]
      · have hx' : exB (c 1) (c 3) (b 0) d s = false := by simpa using hx
        rw [if_neg hx, eC0 s hx']
    · intro s u1 hs
      have := h6 s u1 hs
      have w := (q1 s hs).1 u1
      rw [pd s hs] at w
      rw [fr (k + 10) s (by omega) (by omega), fr (k + 11) s (by omega) (by omega), fr (k + 17) s (by omega) (by omega)]
      refine ⟨?_, this.2⟩
      rw [w]
      unfold lvB exB
      rw [if_pos rfl]
      cases b 0 s <;> simp
    · refine ⟨fun i v hv => ?_, fun i v hv => ?_⟩
      · rw [fr _ _ (by omega) (by omega)]; exact h7.1 i v hv
      · rw [hl0] at hv
        rw [fr _ _ (by omega) (by omega)]; exact h19 i v hv
    · intro e u1 u2
      rw [fr _ _ (by omega) (by omega)]; exact h8 e u1 u2
  · intro s hs
    have := h5 s hs
    dsimp only
    rw [y3 _ _ (by omega), y3 _ _ (by omega), y3 _ _ (by omega)]
    simp only [show (1 : Nat) - 1 = 0 from rfl, List.take_zero, List.not_mem_nil, decide_false, Bool.and_false, Bool.not_false, Bool.and_true]
    rw [if_neg (by decide), if_neg (by decide)]
    exact ⟨fun u => (h6 s u hs).1, this.2.2.1, this.2.2.2⟩
