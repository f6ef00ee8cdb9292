/-! the reference aims -/
def GrM (M : mwM) (q N : Nat) (g : Nat → Nat → Bool) : Prop := ∀ s, s ≤ N → M (q + 27) s = bI (g 0 s) ∧ M (q + 28) s = bI (g 1 s) ∧ M (q + 29) s = bI (g 2 s)
theorem m_second {fu : Nat} {M : mwM} {L : mwL} {q s : Nat} {c : Nat → Nat → Nat} {o : Nat → Bool} (hf : 202 ≤ fu) (hT : Tr (c 0 0) (c 1) (c 2) (c 3)) (hM : TrM M q (c 0 0) (c 1) (c 2) (c 3)) (ho : ∀ t, 1 ≤ t → t ≤ c 0 0 → M (q + 27) t = bI (o t)) (hs : s ≤ c 0 0) : DX13_second fu q (sI s) M L = some (bI (sib c o s), M, L) := by
  have hN := hT.1
  have hps := Tr_pa hT hs
  unfold DX13_second
  have h := wq_for (body := fun r z => fX13_second_i4 fu q (sI s) r z.1 z.2.1 z.2.2.1 z.2.2.2) (Q := fun z => z = (bI (sib c o s), M, L)) (fun i (_ : Unit) => (bI (anyN (fun t => decide (t ≠ s) && decide (c 1 t = c 1 s) && o t) (i - 1)), sI i, M, L)) (fun i _ => 1 ≤ i) (c 0 0 + 1) ?_ ?_ (c 0 0) 1 () fu (by omega) (by omega) (Nat.le_refl _)
  · obtain ⟨z, hz, rfl⟩ := h
    exact hz
  · intro i _ r hi hi1 ih
    obtain ⟨n, rfl⟩ : ∃ n, i = n + 1 := ⟨i - 1, by omega⟩
    have ih2 := ih () (by omega)
    show wq (fX13_second_i4 fu q (sI s) r (bI (anyN (fun t => decide (t ≠ s) && decide (c 1 t = c 1 s) && o t) n)) (sI (n + 1)) M L) _
    simp only [show n + 1 + 1 - 1 = n + 1 from rfl, anyN] at ih2
    have hpn := Tr_pa hT (show n + 1 ≤ c 0 0 by omega)
    have e1 := (hM.2 s hs).1
    have e2 := (hM.2 (n + 1) (by omega)).1
    have e3 := ho (n + 1) (by omega) (by omega)
    unfold fX13_second_i4 fX13_second_b49 fX13_second_b45 fX13_second_b50
    simp (disch := omega) only [hM.1, e1, e2, e3, mck_s, sI_nn, nn_s, sI_lt, sI_le, sI_eq, sI_ltl, sI_lel, sI_eql, sI_llt, sI_lle, sI_1, bI_0, bI_1, bI_n, mlet, mb3_s, mb2_s]
    rw [if_neg (by omega)]
    generalize anyN (fun t => decide (t ≠ s) && decide (c 1 t = c 1 s) && o t) n = x1 at *
    cases x1 with
    | true =>
      rw [if_neg (by decide)]
      simpa [bI] using ih2
    | false =>
      rw [if_pos rfl]
      by_cases h1 : n + 1 = s
      · rw [if_pos h1]
        rw [decide_eq_false (fun z => z h1)] at ih2
        simpa [bI] using ih2
      · rw [if_neg h1]
        rw [decide_eq_true h1] at ih2
        by_cases h2 : c 1 (n + 1) = c 1 s
        · rw [if_pos h2]
          rw [decide_eq_true h2] at ih2
          cases h3 : o (n + 1)
          · rw [h3] at ih2
            rw [if_pos rfl]
            simpa [bI] using ih2
          · rw [h3] at ih2
            rw [if_neg (by decide)]
            simpa [bI] using ih2
        · rw [if_neg h2]
          rw [decide_eq_false h2] at ih2
          simpa [bI] using ih2
  · intro _ r _
    show wq (fX13_second_i4 fu q (sI s) r (bI (sib c o s)) (sI (c 0 0 + 1)) M L) _
    unfold fX13_second_i4
    rw [hM.1, if_pos (by rw [sI_lt (by omega) (by omega)]; omega)]
    exact wq_zz bI_z (wq_some rfl)
theorem ins_1 {N : Nat} {pa kd de : Nat → Nat} (h : Tr N pa kd de) {d f : Nat} (hd : insB pa de d f = true) : 1 ≤ f := by
  rcases Nat.eq_zero_or_pos f with q | q
  · rw [q, ins_0 h] at hd; cases hd
  · exact q
theorem m_aim {fu : Nat} {M : mwM} {L : mwL} {q d t : Nat} {c : Nat → Nat → Nat} {g : Nat → Nat → Bool} (hf : 202 ≤ fu) (hT : Tr (c 0 0) (c 1) (c 2) (c 3)) (hM : TrM M q (c 0 0) (c 1) (c 2) (c 3)) (hg : GrM M q (c 0 0) g) (h1 : 1 ≤ t) (ht : t ≤ c 0 0) (hdl : d ≤ c 0 0) (hd : insB (c 1) (c 3) d t = true) : wq (DX13_aim fu q (sI d) (sI t) M L) (fun z => z.2 = L ∧ GrM z.1 q (c 0 0) (aiF c d g t) ∧ ∀ b y, ¬ (q + 27 ≤ b ∧ b ≤ q + 29) → z.1 b y = M b y) := by
  have hN := hT.1
  have hpt := Tr_pa hT ht
  have b1 : vp_nar .boolean (1 : Int32) = bI true := by decide
  have b0 : vp_nar .boolean (0 : Int32) = bI false := by decide
  obtain ⟨f1, f2, f3⟩ := frA_in hT h1 ht hd
  -- the end: the marks
  have fin : ∀ (r : Int32 × mwM × mwL → Option (mwM × mwL)) (a : mwM) (o : Nat → Bool), (∀ u, u ≤ c 0 0 → a (q + 27) u = bI (o u)) → (∀ b y, b ≠ q + 27 → a b y = M b y) → wq (fX13_aim_i68 fu q (sI d) (sI t) r (sI d) a L) (fun z => z.2 = L ∧ (∀ u, u ≤ c 0 0 → z.1 (q + 27) u = bI (o u) ∧ z.1 (q + 28) u = bI (g 1 u || (decide (u = c 1 t) && decide (c 2 t = 2))) ∧ z.1 (q + 29) u = bI (g 2 u || (decide (u = c 1 t) && decide (c 2 t = 3)))) ∧ ∀ b y, ¬ (q + 27 ≤ b ∧ b ≤ q + 29) → z.1 b y = M b y) := by
    intro r a o p1 p2
    have e2 : a (q + 2) t = sI (c 1 t) := (p2 _ _ (by omega)).trans (hM.2 t ht).1
    have e1 : a (q + 1) t = sI (c 2 t) := (p2 _ _ (by omega)).trans (hM.2 t ht).2.1
    have e28 : a (q + 28) (c 1 t) = bI (g 1 (c 1 t)) := (p2 _ _ (by omega)).trans (hg _ hpt.1).2.1
    have e29 : a (q + 29) (c 1 t) = bI (g 2 (c 1 t)) := (p2 _ _ (by omega)).trans (hg _ hpt.1).2.2
    unfold fX13_aim_i68
    rw [if_pos rfl]
    have fin3 : ∀ (w : Int32) (B : mwM), w = bI (g 2 (c 1 t) || decide (c 2 t = 3)) → (∀ u, u ≤ c 0 0 → B (q + 27) u = bI (o u) ∧ B (q + 28) u = bI (g 1 u || (decide (u = c 1 t) && decide (c 2 t = 2)))) → (∀ b y, b ≠ q + 27 → b ≠ q + 28 → B b y = M b y) → wq (fX13_aim_b173 fu q (sI d) (sI t) (sI (c 1 t)) w B L) (fun z => z.2 = L ∧ (∀ u, u ≤ c 0 0 → z.1 (q + 27) u = bI (o u) ∧ z.1 (q + 28) u = bI (g 1 u || (decide (u = c 1 t) && decide (c 2 t = 2))) ∧ z.1 (q + 29) u = bI (g 2 u || (decide (u = c 1 t) && decide (c 2 t = 3)))) ∧ ∀ b y, ¬ (q + 27 ≤ b ∧ b ≤ q + 29) → z.1 b y = M b y) := by
      intro w B hw B1 B2
      unfold fX13_aim_b173
      rw [hw]
      simp (disch := omega) only [mck_s, sI_nn, nn_s, sI_lt, sI_le, sI_eq, sI_ltl, sI_lel, sI_eql, sI_llt, sI_lle, sI_1, bI_0, bI_1, bI_n, mlet, mb3_s, mb2_s]
      refine wq_some ⟨rfl, fun u hu => ?_, fun b y hb => ?_⟩
      all_goals (try dsimp only)
      · rw [mset_k (by omega), mset_k (by omega)]
        refine ⟨(B1 u hu).1, (B1 u hu).2, ?_⟩
        by_cases hq : u = c 1 t
        · rw [hq, mset_s, decide_eq_true rfl, Bool.true_and]
        · rw [mset_j hq, B2 _ _ (by omega) (by omega), (hg u hu).2.2, decide_eq_false hq]
          simp
      · rw [mset_k (by omega)]
        exact B2 b y (by omega) (by omega)
    have fin2 : ∀ (w : Int32), w = bI (g 1 (c 1 t) || decide (c 2 t = 2)) → wq (fX13_aim_b133 fu q (sI d) (sI t) (sI (c 1 t)) w a L) (fun z => z.2 = L ∧ (∀ u, u ≤ c 0 0 → z.1 (q + 27) u = bI (o u) ∧ z.1 (q + 28) u = bI (g 1 u || (decide (u = c 1 t) && decide (c 2 t = 2))) ∧ z.1 (q + 29) u = bI (g 2 u || (decide (u = c 1 t) && decide (c 2 t = 3)))) ∧ ∀ b y, ¬ (q + 27 ≤ b ∧ b ≤ q + 29) → z.1 b y = M b y) := by
      intro w hw
      unfold fX13_aim_b133
      rw [hw]
      have B1 : ∀ u, u ≤ c 0 0 → mset a (q + 28) (c 1 t) (bI (g 1 (c 1 t) || decide (c 2 t = 2))) (q + 27) u = bI (o u) ∧ mset a (q + 28) (c 1 t) (bI (g 1 (c 1 t) || decide (c 2 t = 2))) (q + 28) u = bI (g 1 u || (decide (u = c 1 t) && decide (c 2 t = 2))) := by
        intro u hu
        rw [mset_k (by omega)]
        refine ⟨p1 u hu, ?_⟩
        by_cases hq : u = c 1 t
        · rw [hq, mset_s, decide_eq_true rfl, Bool.true_and]
        · rw [mset_j hq, p2 _ _ (by omega), (hg u hu).2.1, decide_eq_false hq]
          simp
      have B2 : ∀ b y, b ≠ q + 27 → b ≠ q + 28 → mset a (q + 28) (c 1 t) (bI (g 1 (c 1 t) || decide (c 2 t = 2))) b y = M b y := fun b y u1 u2 => by rw [mset_k u2]; exact p2 b y u1
      simp (disch := omega) only [mset_k, e1, e2, e29, mck_s, sI_nn, nn_s, sI_lt, sI_le, sI_eq, sI_ltl, sI_lel, sI_eql, sI_llt, sI_lle, sI_1, bI_0, bI_1, bI_n, mlet, mb3_s, mb2_s]
      unfold fX13_aim_b168
      cases h2 : g 2 (c 1 t) with
      | true =>
        rw [if_neg (by decide)]
        exact fin3 _ _ (by rw [h2]; rfl) B1 B2
      | false =>
        rw [if_pos rfl]
        by_cases h3 : c 2 t = 3
        · rw [if_pos h3]
          exact fin3 _ _ (by rw [h2, decide_eq_true h3]; rfl) B1 B2
        · rw [if_neg h3]
          exact fin3 _ _ (by rw [h2, decide_eq_false h3]; rfl) B1 B2
    simp (disch := omega) only [e1, e2, e28, mck_s, sI_nn, nn_s, sI_lt, sI_le, sI_eq, sI_ltl, sI_lel, sI_eql, sI_llt, sI_lle, sI_1, bI_0, bI_1, bI_n, mlet, mb3_s, mb2_s]
    unfold fX13_aim_b128
    cases h2 : g 1 (c 1 t) with
    | true =>
      rw [if_neg (by decide)]
      exact fin2 _ (by rw [h2]; rfl)
    | false =>
      rw [if_pos rfl]
      by_cases h3 : c 2 t = 2
      · rw [if_pos h3]
        exact fin2 _ (by rw [h2, decide_eq_true h3]; rfl)
      · rw [if_neg h3]
        exact fin2 _ (by rw [h2, decide_eq_false h3]; rfl)
  -- the second way up
  have way2 : ∀ (n s f : Nat) (a : mwM) (o : Nat → Bool), c 3 s = n → s ≤ c 0 0 → (s = d ∨ insB (c 1) (c 3) d s = true) → n < f → (∀ u, u ≤ c 0 0 → a (q + 27) u = bI (o u)) → (∀ b y, b ≠ q + 27 → a b y = M b y) → wq (fX13_aim_h68 fu q (sI d) (sI t) f (sI s, a, L)) (fun z => z.2 = L ∧ (∀ u, u ≤ c 0 0 → z.1 (q + 27) u = bI (o u || onP c d s u) ∧ z.1 (q + 28) u = bI (g 1 u || (decide (u = c 1 t) && decide (c 2 t = 2))) ∧ z.1 (q + 29) u = bI (g 2 u || (decide (u = c 1 t) && decide (c 2 t = 3)))) ∧ ∀ b y, ¬ (q + 27 ≤ b ∧ b ≤ q + 29) → z.1 b y = M b y) := by
    intro n
    induction n with
    | zero =>
      intro s f a o hn hs hds hf1 p1 p2
      obtain ⟨u, rfl⟩ : ∃ u, f = u + 1 := ⟨f - 1, by omega⟩
      have hsd : s = d := by
        rcases hds with q | q
        · exact q
        · have := ins_lt hT s hs q
          omega
      subst hsd
      unfold fX13_aim_h68
      rw [mloop_S]
      have e0 : ∀ u, onP c s s u = false := fun u => clm_0 _
      simp only [e0, Bool.or_false]
      exact fin _ a o p1 p2
    | succ n ih =>
      intro s f a o hn hs hds hf1 p1 p2
      obtain ⟨u, rfl⟩ : ∃ u, f = u + 1 := ⟨f - 1, by omega⟩
      by_cases hsd : s = d
      · subst hsd
        unfold fX13_aim_h68
        rw [mloop_S]
        have e0 : ∀ u, onP c s s u = false := fun u => clm_0 _
        simp only [e0, Bool.or_false]
        exact fin _ a o p1 p2
      · have hds2 : insB (c 1) (c 3) d s = true := by
          rcases hds with q | q
          · exact absurd q hsd
          · exact q
        have hs1 := ins_1 hT hds2
        have hps := hT.2.2.2.2 s hs1 hs
        have hup : c 1 s = d ∨ insB (c 1) (c 3) d (c 1 s) = true := by
          have := hds2
          rw [ins_S hT hs1 hs, Bool.or_eq_true, decide_eq_true_eq] at this
          exact this
        have e2 : a (q + 2) s = sI (c 1 s) := (p2 _ _ (by omega)).trans (hM.2 s hs).1
        unfold fX13_aim_h68
        rw [mloop_S]
        show wq (fX13_aim_i68 fu q (sI d) (sI t) (fX13_aim_h68 fu q (sI d) (sI t) u) (sI s) a L) _
        unfold fX13_aim_i68
        rw [if_neg (by rw [sI_eq (by omega) (by omega)]; exact hsd)]
        simp (disch := omega) only [e2, b1, mset_k, mck_s, sI_nn, nn_s, sI_lt, sI_le, sI_eq, sI_ltl, sI_lel, sI_eql, sI_llt, sI_lle, sI_1, bI_0, bI_1, bI_n, mlet, mb3_s, mb2_s]
        refine wq_mono (ih (c 1 s) u (mset a (q + 27) s (bI true)) (fun z => o z || decide (z = s)) (by omega) (by omega) hup (by omega) (fun z hz => ?_) (fun b y hb => by rw [mset_k hb]; exact p2 b y hb)) ?_
        · by_cases hq : z = s
          · rw [hq, mset_s, decide_eq_true rfl]; simp
          · rw [mset_j hq, p1 z hz, decide_eq_false hq]; simp
        · rintro ⟨B, l⟩ ⟨y1, y2, y3⟩
          refine ⟨y1, fun z hz => ?_, y3⟩
          have e0 : onP c d s z = (decide (s = z) || onP c d (c 1 s) z) := by
            unfold onP
            rw [clm_S hT hs hds2]
          rw [e0, ← Bool.or_assoc]
          have := y2 z hz
          have ec : decide (z = s) = decide (s = z) := by
            by_cases hq : z = s
            · rw [decide_eq_true hq, decide_eq_true hq.symm]
            · rw [decide_eq_false hq, decide_eq_false (fun w => hq w.symm)]
          rw [ec] at this
          exact this
  -- the first way up
  have way1 : ∀ (n s f : Nat), c 3 s = n → s ≤ c 0 0 → (s = d ∨ insB (c 1) (c 3) d s = true) → n < f → fX13_aim_h22 fu q (sI d) (sI t) f (sI (frA c t), sI s, M, L) = if blk c d s (g 0) = true then some (M, L) else fX13_aim_h68 fu q (sI d) (sI t) fu (sI (frA c t), M, L) := by
    intro n
    have stop : ∀ (s f : Nat), s = d → 0 < f → fX13_aim_h22 fu q (sI d) (sI t) f (sI (frA c t), sI s, M, L) = if blk c d s (g 0) = true then some (M, L) else fX13_aim_h68 fu q (sI d) (sI t) fu (sI (frA c t), M, L) := by
      intro s f hsd hf1
      obtain ⟨u, rfl⟩ : ∃ u, f = u + 1 := ⟨f - 1, by omega⟩
      subst hsd
      have e0 : blk c s s (g 0) = false := clm_0 _
      rw [e0, if_neg (by decide)]
      unfold fX13_aim_h22
      rw [mloop_S]
      show fX13_aim_i22 fu q (sI s) (sI t) _ (sI (frA c t)) (sI s) M L = _
      unfold fX13_aim_i22
      rw [if_pos rfl]
    induction n with
    | zero =>
      intro s f hn hs hds hf1
      refine stop s f ?_ (by omega)
      rcases hds with q | q
      · exact q
      · have := ins_lt hT s hs q
        omega
    | succ n ih =>
      intro s f hn hs hds hf1
      by_cases hsd : s = d
      · exact stop s f hsd (by omega)
      · obtain ⟨u, rfl⟩ : ∃ u, f = u + 1 := ⟨f - 1, by omega⟩
        have hds2 : insB (c 1) (c 3) d s = true := by
          rcases hds with q | q
          · exact absurd q hsd
          · exact q
        have hs1 := ins_1 hT hds2
        have hps := hT.2.2.2.2 s hs1 hs
        have hpp := Tr_pa hT hs
        have hkp := (Tr_pa hT hpp.1).2.2.2.1
        have hup : c 1 s = d ∨ insB (c 1) (c 3) d (c 1 s) = true := by
          have := hds2
          rw [ins_S hT hs1 hs, Bool.or_eq_true, decide_eq_true_eq] at this
          exact this
        have e2 := (hM.2 s hs).1
        have e1 := (hM.2 (c 1 s) hpp.1).2.1
        have es := m_second (fu := fu) (L := L) (o := g 0) (by omega) hT hM (fun z u1 u2 => (hg z u2).1) hs
        have ih2 := ih (c 1 s) u (by omega) (by omega) hup (by omega)
        have eb : blk c d s (g 0) = ((decide (c 2 (c 1 s) = 0) && sib c (g 0) s) || blk c d (c 1 s) (g 0)) := by
          unfold blk
          rw [clm_S hT hs hds2]
        rw [eb]
        unfold fX13_aim_h22
        rw [mloop_S]
        show fX13_aim_i22 fu q (sI d) (sI t) (fX13_aim_h22 fu q (sI d) (sI t) u) (sI (frA c t)) (sI s) M L = _
        unfold fX13_aim_i22 fX13_aim_b53
        simp (disch := omega) only [e1, e2, es, ih2, mck_s, sI_nn, nn_s, sI_lt, sI_le, sI_eq, sI_ltl, sI_lel, sI_eql, sI_llt, sI_lle, sI_1, bI_0, bI_1, bI_n, mlet, mb3_s, mb2_s]
        rw [if_neg hsd]
        by_cases hk : c 2 (c 1 s) = 0
        · rw [if_pos hk, decide_eq_true hk]
          cases sib c (g 0) s <;> simp
        · rw [if_neg hk, decide_eq_false hk]
          simp
  have hdf := (Tr_pa hT f1).2.2.2.2
  have ebb : fX13_aim_b18 fu q (sI d) (sI t) (sI (frA c t)) M L = if blk c d (frA c t) (g 0) = true then some (M, L) else fX13_aim_h68 fu q (sI d) (sI t) fu (sI (frA c t), M, L) := by
    unfold fX13_aim_b18
    exact way1 _ _ fu rfl f1 f2 (by omega)
  have main : wq (fX13_aim_b18 fu q (sI d) (sI t) (sI (frA c t)) M L) (fun z => z.2 = L ∧ GrM z.1 q (c 0 0) (aiF c d g t) ∧ ∀ b y, ¬ (q + 27 ≤ b ∧ b ≤ q + 29) → z.1 b y = M b y) := by
    rw [ebb]
    unfold aiF
    by_cases hb : blk c d (frA c t) (g 0) = true
    · rw [if_pos hb, if_pos hb]
      exact wq_some ⟨rfl, hg, fun _ _ _ => rfl⟩
    · rw [if_neg hb, if_neg hb]
      refine wq_mono (way2 _ (frA c t) fu M (g 0) rfl f1 f2 (by omega) (fun z hz => (hg z hz).1) (fun _ _ _ => rfl)) ?_
      rintro ⟨B, l⟩ ⟨y1, y2, y3⟩
      exact ⟨y1, fun z hz => y2 z hz, y3⟩
  unfold DX13_aim
  have e2 := (hM.2 t ht).1
  have em := m_mark (fu := fu) (L := L) hT hM ht
  simp (disch := omega) only [em, e2, mck_s, sI_nn, nn_s, sI_lt, sI_le, sI_eq, sI_ltl, sI_lel, sI_eql, sI_llt, sI_lle, sI_1, bI_0, bI_1, bI_n, mlet, mb3_s, mb2_s]
  unfold frA at main
  by_cases hm : 2 ≤ c 2 t
  · rw [if_neg (by simp [hm])]
    rw [if_pos hm] at main
    exact main
  · rw [if_pos (by simp [hm])]
    rw [if_neg hm] at main
    exact main
