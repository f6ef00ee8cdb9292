/-! the reference fills -/
def HiV (c : Nat → Nat → Nat) : Prop := ∀ s, s ≤ c 0 0 → c 13 s = 0 ∨ (1 ≤ c 13 s ∧ c 13 s ≤ c 0 0 ∧ c 1 (c 13 s) = s ∧ c 2 (c 13 s) ≤ 1)
theorem HiV_le {c : Nat → Nat → Nat} (h : HiV c) : ∀ s, s ≤ c 0 0 → c 13 s ≤ c 0 0 := by
  intro s hs
  rcases h s hs with q | q
  · omega
  · omega
theorem df_p {c : Nat → Nat → Nat} {p : Nat} (h : dfl c p ≠ 0) : 1 ≤ dfl c p ∧ dfl c p ≤ c 0 0 ∧ c 1 (dfl c p) = p ∧ c 2 (dfl c p) ≤ 1 := by
  have hz := fst_p (p := chP (c 1) (c 2) (fun _ => true) p) _ _ (by omega) h
  have h1 := hz.1
  unfold chP at h1
  simp only [Bool.and_eq_true, decide_eq_true_eq] at h1
  exact ⟨hz.2.1, by have := hz.2.2; unfold dfl chF; omega, h1.1.1, h1.1.2⟩
def pk2 (c : Nat → Nat → Nat) (g1 : Nat → Bool) (p : Nat) (w : Bool) : Nat := if (w || g1 p) = true ∧ c 13 p ≠ 0 then c 13 p else dfl c p
theorem m_fill {fu : Nat} {M : mwM} {L : mwL} {q d s : Nat} {c : Nat → Nat → Nat} {o g1 w : Nat → Bool} (hf : 202 ≤ fu) (hT : Tr (c 0 0) (c 1) (c 2) (c 3)) (hM : TrM M q (c 0 0) (c 1) (c 2) (c 3)) (ho : ∀ t, 1 ≤ t → t ≤ c 0 0 → M (q + 27) t = bI (o t)) (hg1 : ∀ t, t ≤ c 0 0 → M (q + 28) t = bI (g1 t)) (hw : ∀ t, t ≤ c 0 0 → M (q + 29) t = bI (w t)) (hhi : ∀ t, t ≤ c 0 0 → M (q + 4) t = sI (c 13 t)) (hH : HiV c) (hs : s ≤ c 0 0) (hd : d ≤ c 0 0) (hk : c 2 s ≤ 1) : wq (DX13_fill fu q (sI s) (sI d) M L) (fun z => z.2 = L ∧ z.1 (q + 29) s = bI (w s || (decide (s ≠ d) && w (c 1 s))) ∧ (∀ t, 1 ≤ t → t ≤ c 0 0 → z.1 (q + 27) t = bI (if c 2 s = 1 then o t || (decide (c 1 t = s) && decide (c 2 t ≤ 1)) else if anyN (fun t => decide (c 1 t = s) && o t) (c 0 0) = true then o t else o t || decide (t = pk2 c g1 s (w s || (decide (s ≠ d) && w (c 1 s))))) ) ∧ ∀ b y, b ≠ q + 27 → ¬ (b = q + 29 ∧ y = s) → z.1 b y = M b y) := by
  have hN := hT.1
  have hps := Tr_pa hT hs
  have b1 : vp_nar .boolean (1 : Int32) = bI true := by decide
  have b0 : vp_nar .boolean (0 : Int32) = bI false := by decide
  generalize hW : (w s || (decide (s ≠ d) && w (c 1 s))) = W
  generalize hQ : (fun z : mwM × mwL => z.2 = L ∧ z.1 (q + 29) s = bI W ∧ (∀ t, 1 ≤ t → t ≤ c 0 0 → z.1 (q + 27) t = bI (if c 2 s = 1 then o t || (decide (c 1 t = s) && decide (c 2 t ≤ 1)) else if anyN (fun t => decide (c 1 t = s) && o t) (c 0 0) = true then o t else o t || decide (t = pk2 c g1 s W))) ∧ ∀ b y, b ≠ q + 27 → ¬ (b = q + 29 ∧ y = s) → z.1 b y = M b y) = Q
  -- behind the mark of deepness
  have main : ∀ v : Int32, v = bI W → wq (fX13_fill_b38 fu q (sI s) (sI d) v M L) Q := by
    intro v hv
    subst hv
    unfold fX13_fill_b38
    simp (disch := omega) only [mck_s, sI_nn, nn_s, sI_lt, sI_le, sI_eq, sI_ltl, sI_lel, sI_eql, sI_llt, sI_lle, sI_1, bI_0, bI_1, bI_n, mlet, mb3_s, mb2_s]
    refine wq_for (body := fun r z => fX13_fill_i44 fu q (sI s) (sI d) r z.1 z.2.1 z.2.2.1 z.2.2.2) (fun i (a : mwM × Bool) => (bI a.2, sI i, a.1, L)) (fun i a => 1 ≤ i ∧ a.1 (q + 29) s = bI W ∧ (∀ t, 1 ≤ t → t ≤ c 0 0 → a.1 (q + 27) t = bI (o t || (decide (t < i) && (decide (c 2 s = 1) && (decide (c 1 t = s) && decide (c 2 t ≤ 1)))))) ∧ (c 2 s = 0 → a.2 = anyN (fun t => decide (c 1 t = s) && o t) (i - 1)) ∧ ∀ b y, b ≠ q + 27 → ¬ (b = q + 29 ∧ y = s) → a.1 b y = M b y) (c 0 0 + 1) ?_ ?_ (c 0 0) 1 (mset M (q + 29) s (bI W), false) fu (by omega) (by omega) ⟨Nat.le_refl _, mset_s, ?_, fun _ => rfl, ?_⟩
    · rintro i ⟨a, so⟩ r hi ⟨hi1, p0, p1, p2, p3⟩ ih
      dsimp only at p0 p1 p2 p3
      obtain ⟨n, rfl⟩ : ∃ n, i = n + 1 := ⟨i - 1, by omega⟩
      show wq (fX13_fill_i44 fu q (sI s) (sI d) r (bI so) (sI (n + 1)) a L) _
      have key := fun (X : mwM) (Y : Bool) => ih (X, Y)
      dsimp only at key
      simp only [show n + 1 + 1 - 1 = n + 1 from rfl] at key
      rw [Nat.add_sub_cancel] at p2
      have aM : TrM a q (c 0 0) (c 1) (c 2) (c 3) := TrM_f hM (p3 _ _ (by omega) (by omega)) (fun d s u1 u2 => p3 _ _ (by omega) (by omega))
      have hpn := Tr_pa hT (show n + 1 ≤ c 0 0 by omega)
      have e1 := (aM.2 (n + 1) (by omega)).1
      have e2 := (aM.2 s hs).2.1
      have em := m_mark (fu := fu) (L := L) hT aM (show n + 1 ≤ c 0 0 by omega)
      have eo := p1 (n + 1) (by omega) (by omega)
      rw [decide_eq_false (show ¬ n + 1 < n + 1 by omega), Bool.false_and, Bool.or_false] at eo
      -- behind the entering
      have b91 : ∀ G : mwM, (∀ b y, ¬ (b = q + 27 ∧ y = n + 1) → G b y = a b y) → (G (q + 27) (n + 1) = bI (o (n + 1) || (decide (c 2 s = 1) && (decide (c 1 (n + 1) = s) && decide (c 2 (n + 1) ≤ 1))))) → wq (fX13_fill_b91 fu q (sI s) (sI d) r (bI so) (sI (n + 1)) G L) Q := by
        intro G k1 k2
        have next : ∀ so2 : Bool, (c 2 s = 0 → so2 = (so || (decide (c 1 (n + 1) = s) && o (n + 1)))) → wq (r (bI so2, sI (n + 1 + 1), G, L)) Q := by
          intro so2 hso
          refine key G so2 ⟨by omega, (k1 _ _ (by omega)).trans p0, fun t u1 u2 => ?_, fun hk0 => ?_, fun b y u1 u2 => (k1 b y (by omega)).trans (p3 b y u1 u2)⟩
          · by_cases hq : t = n + 1
            · subst hq
              rw [k2, decide_eq_true (show n + 1 < n + 1 + 1 by omega), Bool.true_and]
            · rw [k1 _ _ (by omega), p1 t u1 u2]
              by_cases hlt : t < n + 1
              · rw [decide_eq_true hlt, decide_eq_true (show t < n + 1 + 1 by omega)]
              · rw [decide_eq_false hlt, decide_eq_false (show ¬ t < n + 1 + 1 by omega)]
          · rw [hso hk0, p2 hk0]
            rfl
        have g2 : G (q + 2) (n + 1) = sI (c 1 (n + 1)) := (k1 _ _ (by omega)).trans e1
        unfold fX13_fill_b91 fX13_fill_b120 fX13_fill_b116 fX13_fill_b121
        simp (disch := omega) only [g2, k2, mck_s, sI_nn, nn_s, sI_lt, sI_le, sI_eq, sI_ltl, sI_lel, sI_eql, sI_llt, sI_lle, sI_1, bI_0, bI_1, bI_n, mlet, mb3_s, mb2_s]
        cases so with
        | true =>
          rw [if_neg (by decide)]
          exact next true (fun _ => rfl)
        | false =>
          rw [if_pos rfl]
          by_cases h1 : c 1 (n + 1) = s
          · rw [if_pos h1]
            cases hx : (o (n + 1) || (decide (c 2 s = 1) && (decide (c 1 (n + 1) = s) && decide (c 2 (n + 1) ≤ 1)))) with
            | false =>
              rw [if_pos rfl]
              refine next false (fun hk0 => ?_)
              rw [hk0] at hx
              simp only [Bool.or_eq_false_iff] at hx
              rw [hx.1]
              simp
            | true =>
              rw [if_neg (by decide)]
              refine next true (fun hk0 => ?_)
              rw [hk0] at hx
              simp at hx
              rw [hx, decide_eq_true h1]
              rfl
          · rw [if_neg h1]
            refine next false (fun hk0 => ?_)
            rw [decide_eq_false h1]
            rfl
      unfold fX13_fill_i44
      simp (disch := omega) only [aM.1, e1, e2, em, b1, mck_s, sI_nn, nn_s, sI_lt, sI_le, sI_eq, sI_ltl, sI_lel, sI_eql, sI_llt, sI_lle, sI_1, bI_0, bI_1, bI_n, mlet, mb3_s, mb2_s]
      rw [if_neg (by omega)]
      by_cases h1 : c 1 (n + 1) = s
      · rw [if_pos h1]
        by_cases h2 : c 2 s = 1
        · rw [if_pos h2]
          by_cases h3 : 2 ≤ c 2 (n + 1)
          · rw [if_neg (by simp [h3])]
            refine b91 a (fun _ _ _ => rfl) ?_
            rw [eo, decide_eq_false (show ¬ c 2 (n + 1) ≤ 1 by omega)]
            simp
          · rw [if_pos (by simp [h3])]
            refine b91 _ (fun b y u => mset_n u) ?_
            rw [mset_s, decide_eq_true h2, decide_eq_true h1, decide_eq_true (show c 2 (n + 1) ≤ 1 by omega)]
            simp
        · rw [if_neg h2]
          refine b91 a (fun _ _ _ => rfl) ?_
          rw [eo, decide_eq_false h2]
          simp
      · rw [if_neg h1]
        refine b91 a (fun _ _ _ => rfl) ?_
        rw [eo, decide_eq_false h1]
        simp
    · rintro ⟨a, so⟩ r ⟨_, p0, p1, p2, p3⟩
      dsimp only at p0 p1 p2 p3
      rw [Nat.add_sub_cancel] at p2
      show wq (fX13_fill_i44 fu q (sI s) (sI d) r (bI so) (sI (c 0 0 + 1)) a L) _
      have aM : TrM a q (c 0 0) (c 1) (c 2) (c 3) := TrM_f hM (p3 _ _ (by omega) (by omega)) (fun d s u1 u2 => p3 _ _ (by omega) (by omega))
      have e2 := (aM.2 s hs).2.1
      have e28 : a (q + 28) s = bI (g1 s) := (p3 _ _ (by omega) (by omega)).trans (hg1 s hs)
      have e4 : a (q + 4) s = sI (c 13 s) := (p3 _ _ (by omega) (by omega)).trans (hhi s hs)
      have hle := HiV_le hH s hs
      -- nothing more is entered
      have stop : (c 2 s = 0 → so = true) → wq (fX13_fill_b141 fu q (sI s) (sI d) a L) Q := by
        intro hso
        unfold fX13_fill_b141
        rw [← hQ]
        refine wq_some ⟨rfl, p0, fun t u1 u2 => ?_, p3⟩
        dsimp only
        rw [p1 t u1 u2, decide_eq_true (show t < c 0 0 + 1 by omega), Bool.true_and]
        by_cases h1 : c 2 s = 1
        · rw [if_pos h1, decide_eq_true h1, Bool.true_and]
        · have h0 : c 2 s = 0 := by omega
          rw [if_neg h1, decide_eq_false h1]
          have := p2 h0
          rw [hso h0] at this
          rw [if_pos this.symm]
          simp
      -- one is entered
      have one : c 2 s = 0 → so = false → ∀ v, v = pk2 c g1 s W → v ≤ c 0 0 → wq (fX13_fill_b184 fu q (sI s) (sI d) (sI v) a L) Q := by
        intro h0 hso v hv hvl
        have hany := p2 h0
        rw [hso] at hany
        unfold fX13_fill_b184 fX13_fill_b199
        simp (disch := omega) only [b1, mck_s, sI_nn, nn_s, sI_lt, sI_le, sI_eq, sI_ltl, sI_lel, sI_eql, sI_llt, sI_lle, sI_1, bI_0, bI_1, bI_n, mlet, mb3_s, mb2_s]
        rw [← hQ]
        by_cases hv0 : v ≤ 0
        · rw [if_pos hv0]
          refine wq_some ⟨rfl, p0, fun t u1 u2 => ?_, p3⟩
          dsimp only
          rw [p1 t u1 u2, if_neg (by omega), ← hany, if_neg (by decide), decide_eq_false (show ¬ c 2 s = 1 by omega), ← hv, decide_eq_false (show ¬ t = v by omega)]
          simp
        · rw [if_neg hv0]
          refine wq_some ⟨rfl, by dsimp only; rw [mset_k (by omega)]; exact p0, fun t u1 u2 => ?_, fun b y u1 u2 => ?_⟩
          all_goals (try dsimp only)
          · rw [if_neg (by omega), ← hany, if_neg (by decide), ← hv]
            by_cases hq : t = v
            · rw [hq, mset_s, decide_eq_true rfl]; simp
            · rw [mset_j hq, p1 t u1 u2, decide_eq_false (show ¬ c 2 s = 1 by omega), decide_eq_false hq]
              simp
          · rw [mset_k u1]; exact p3 b y u1 u2
      have ech := m_child (fu := fu) (L := L) (w := false) (ac := fun _ => false) (s := s) (by omega) hT aM (fun z => by cases z) hs
      have hdl : chF (c 1) (c 2) (c 0 0) (fun c => !false || false) s = dfl c s := rfl
      have b178 : c 2 s = 0 → so = false → ¬ ((W || g1 s) = true ∧ c 13 s ≠ 0) → wq (fX13_fill_b178 fu q (sI s) (sI d) a L) Q := by
        intro h0 hso hn
        unfold fX13_fill_b178
        rw [show DX13_child fu q (sI s) 0 a L = _ from ech, mb3_s]
        refine one h0 hso _ ?_ ch_le
        unfold pk2
        rw [if_neg hn]
        rfl
      have b160 : c 2 s = 0 → so = false → (W || g1 s) = true → wq (fX13_fill_b160 fu q (sI s) (sI d) a L) Q := by
        intro h0 hso hn
        unfold fX13_fill_b160
        simp (disch := omega) only [e4, mck_s, sI_nn, nn_s, sI_lt, sI_le, sI_eq, sI_ltl, sI_lel, sI_eql, sI_llt, sI_lle, sI_1, bI_0, bI_1, bI_n, mlet, mb3_s, mb2_s]
        by_cases hz : c 13 s ≤ 0
        · rw [if_pos hz]
          exact b178 h0 hso (fun z => z.2 (by omega))
        · rw [if_neg hz]
          refine one h0 hso _ ?_ hle
          unfold pk2
          rw [if_pos ⟨hn, by omega⟩]
      unfold fX13_fill_i44
      rw [aM.1, if_pos (by rw [sI_lt (by omega) (by omega)]; omega)]
      simp (disch := omega) only [e2, p0, e28, mck_s, sI_nn, nn_s, sI_lt, sI_le, sI_eq, sI_ltl, sI_lel, sI_eql, sI_llt, sI_lle, sI_1, bI_0, bI_1, bI_n, mlet, mb3_s, mb2_s]
      cases so with
      | true =>
        rw [if_neg (by decide)]
        exact stop (fun _ => rfl)
      | false =>
        rw [if_pos rfl]
        by_cases h0 : c 2 s = 0
        · rw [if_pos h0]
          cases hW2 : W with
          | true =>
            rw [if_neg (by decide)]
            exact b160 h0 rfl (by rw [hW2]; rfl)
          | false =>
            rw [if_pos rfl]
            cases hg2 : g1 s with
            | true =>
              rw [if_neg (by decide)]
              exact b160 h0 rfl (by rw [hg2]; simp)
            | false =>
              rw [if_pos rfl]
              exact b178 h0 rfl (fun z => by rw [hW2, hg2] at z; cases z.1)
        · rw [if_neg h0]
          exact stop (fun z => absurd z h0)
    · intro t u1 u2
      dsimp only
      rw [mset_k (by omega), ho t u1 u2, decide_eq_false (show ¬ t < 1 by omega)]
      simp
    · intro b y u1 u2
      dsimp only
      rw [mset_n u2]
  unfold DX13_fill fX13_fill_b37 fX13_fill_b33
  have e2 := (hM.2 s hs).1
  have e29 := hw s hs
  have e29p := hw (c 1 s) hps.1
  simp (disch := omega) only [e2, e29, e29p, mck_s, sI_nn, nn_s, sI_lt, sI_le, sI_eq, sI_ltl, sI_lel, sI_eql, sI_llt, sI_lle, sI_1, bI_0, bI_1, bI_n, mlet, mb3_s, mb2_s]
  cases h1 : w s with
  | true =>
    rw [if_neg (by decide)]
    exact main 1 (by rw [← hW, h1]; rfl)
  | false =>
    rw [if_pos rfl]
    by_cases h2 : s = d
    · rw [if_pos h2]
      exact main 0 (by rw [← hW, h1, decide_eq_false (fun z => z h2)]; rfl)
    · rw [if_neg h2]
      cases h3 : w (c 1 s) with
      | true =>
        rw [if_neg (by decide)]
        exact main 1 (by rw [← hW, h1, h3, decide_eq_true h2]; rfl)
      | false =>
        rw [if_pos rfl]
        exact main 0 (by rw [← hW, h1, h3]; simp [bI])
