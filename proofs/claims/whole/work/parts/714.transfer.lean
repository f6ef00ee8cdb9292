/-! the reference: a moment -/
theorem due_2 {fu m τ : Nat} {M : mwM} {L : mwL} (hm : m ≤ 100) (h1 : M 873 m = sI 2) (h2 : L 881 m = sL τ) (h3 : L 869 2 = sL τ) : DX17_senderDue fu (sI m) M L = some (1, M, L) := by
  unfold DX17_senderDue fX17_senderDue_b52 fX17_senderDue_b57
  rw [mck_s (by omega) (by omega), sI_nn (by omega), h1, if_pos (show sI 2 = 2 from rfl), mck_s (by omega) (by omega), h2, h3, if_pos ((lg_cmp_eq _ _).mpr rfl)]
  rfl
theorem due_1 {fu m s τ : Nat} {M : mwM} {L : mwL} (hm : m ≤ 100) (h1 : M 873 m = sI 1) (h2 : L 880 m = sL s) (h3 : L 869 2 = sL τ) (hs : s ≤ τ) (ht : τ ≤ 30000) : DX17_senderDue fu (sI m) M L = some (bI (decide (τ - s = 1000)), M, L) := by
  unfold DX17_senderDue fX17_senderDue_b24 fX17_senderDue_b52 fX17_senderDue_b56 fX17_senderDue_b57
  rw [mck_s (by omega) (by omega), sI_nn (by omega), h1, if_neg (by decide), mck_s (by omega) (by omega), if_pos (show sI 1 = 1 from rfl), mck_s (by omega) (by omega), h2, h3, sL_sub hs]
  by_cases hq : τ - s = 1000
  · rw [if_pos ((lg_cmp_eq _ _).mpr (by rw [hq]; rfl)), decide_eq_true hq]
    rfl
  · rw [if_neg (show ¬ lg_cmp (sL (τ - s)) 1000 = 0 from fun z => hq ((sL_eq (a := τ - s) (b := 1000) (by omega) (by omega)).mp ((lg_cmp_eq _ _).mp z))), decide_eq_false hq]
    rfl
theorem due_0 {fu m st : Nat} {M : mwM} {L : mwL} (hm : m ≤ 100) (h1 : M 873 m = sI st) (hs : st ≤ 4) (n1 : st ≠ 1) (n2 : st ≠ 2) : DX17_senderDue fu (sI m) M L = some (0, M, L) := by
  unfold DX17_senderDue fX17_senderDue_b24 fX17_senderDue_b56 fX17_senderDue_b57
  rw [mck_s (by omega) (by omega), sI_nn (by omega), h1, if_neg (by rw [sI_eql (by omega) (by decide)]; exact n2), mck_s (by omega) (by omega), if_neg (by rw [sI_eql (by omega) (by decide)]; exact n1)]
  rfl
abbrev mFr (M M' : mwM) : Prop := ∀ a y, ¬ (a = 869 ∨ (872 ≤ a ∧ a ≤ 875) ∨ a = 882 ∨ (892 ≤ a ∧ a ≤ 899) ∨ a = 901) → M' a y = M a y
abbrev lFr (L L' : mwL) : Prop := ∀ a y, ¬ (a = 869 ∨ a = 880 ∨ a = 881 ∨ a = 897) → L' a y = L a y
theorem m_mom1 {fu m τ : Nat} {M : mwM} {L : mwL} {p : PB} {o : Nat → Nat → Nat} {e : Nat → Nat} {Q : mwM × mwL → Prop} {r2 : Int32 × mwM × mwL → Option (mwM × mwL)} (hfu : 40 ≤ fu) (hv : TfV p.1 p.2) (h : TfM M L τ p.1 p.2 o e) (h1 : 1 ≤ m) (h2 : m ≤ p.1 0 0) (hτ : τ ≤ 20001) (ht : p.1 3 m = 1 → p.1 4 m ≤ τ ∧ τ ≤ p.1 4 m + 1000) (hQ : ∀ M' L' e', TfM M' L' τ (goP m τ p).1 (goP m τ p).2 o e' → eR 1 e p.2 e' (goP m τ p).2 → mFr M M' → lFr L L' → wq (r2 (sI (m + 1), M', L')) Q) : wq (fX17_moment_h10 fu r2 fu (sI m, M, L)) Q := by
  have hK := hv.1.1
  have hM := hv.2.1 m h1 h2
  have tm := (h.2.2.1 m h1 h2).2
  have hW := (TfV_W.mp hv).1
  -- nothing is due
  have stop : ∀ (f : Nat) (M' : mwM) (L' : mwL) (st : Nat), 1 ≤ f → M' 873 m = sI st → st ≤ 4 → st ≠ 1 → st ≠ 2 → wq (r2 (sI (m + 1), M', L')) Q → wq (fX17_moment_h10 fu r2 f (sI m, M', L')) Q := by
    intro f M' L' st hf e1 e2 e3 e4 hq
    obtain ⟨g, rfl⟩ : ∃ g, f = g + 1 := ⟨f - 1, by omega⟩
    unfold fX17_moment_h10
    rw [mloop_S]
    show wq (fX17_moment_i10 fu r2 (fX17_moment_h10 fu r2 g) (sI m) M' L') Q
    unfold fX17_moment_i10
    rw [due_0 (by omega) e1 e2 e3 e4, mb3_s, if_pos rfl]
    simp only [mlet]
    rw [sI_1]
    exact hq
  by_cases a2 : p.1 3 m = 2
  · have eg : goP m τ p = (mset (coP m (csN (p.1 2 m)) p).1 3 m 3, (coP m (csN (p.1 2 m)) p).2) := by unfold goP; rw [if_pos a2]
    have h8 : 8 ≤ p.1 2 m := hM.2.2.2.2.2.1 (Or.inr a2)
    have cs14 := cs_le hM.2.2.1
    have vg := V_go (t := τ) hv h1 h2
    have hF := Tf_F vg
    have eF : (goP m τ p).1 0 1 = p.1 0 1 + csN (p.1 2 m) := by
      rw [eg]
      dsimp only
      rw [mset_n (by omega), co_F]
    have cs0 : 1 ≤ csN (p.1 2 m) := by
      unfold csN
      omega
    have key : ∀ (k j f : Nat) (M' : mwM) (L' : mwL), j + k + 1 = csN (p.1 2 m) → k + 2 ≤ f → TfM (mset (mset M' 874 m (sI 6)) 875 m (sI 0)) L' τ (coP m j p).1 (coP m j p).2 o e → M' 874 m = sI (6 + 7 * j) → M' 875 m = sI j → mFr M M' → lFr L L' → wq (fX17_moment_h10 fu r2 f (sI m, M', L')) Q := by
      intro k
      induction k with
      | zero =>
        intro j f M' L' hj hf T q4 q5 fM fL
        obtain ⟨g, rfl⟩ : ∃ g, f = g + 1 := ⟨f - 1, by omega⟩
        have c3 : (coP m j p).1 3 m = 2 := by rw [co_r (by omega) (by omega)]; exact a2
        have c0 : (coP m j p).1 0 0 = p.1 0 0 := co_r (by omega) (by omega) _ _
        have t := (T.2.2.1 m h1 (by rw [c0]; exact h2)).2
        unfold TmS at t
        rw [c3] at t
        simp (disch := omega) only [mset_n] at t
        unfold fX17_moment_h10
        rw [mloop_S]
        show wq (fX17_moment_i10 fu r2 (fX17_moment_h10 fu r2 g) (sI m) M' L') Q
        unfold fX17_moment_i10
        rw [due_2 (by omega) t.2.1 (t.2.2.2.2.2 trivial).2.2 T.1.2.1, mb3_s, if_neg (by decide), mck_s (by omega) (by omega), sI_nn (by omega), t.2.1, if_neg (by decide)]
        refine wq_b2 (m_sendNext17 (by omega) hW h1 h2 a2 (by omega) (by omega) T q4 q5) ?_
        rintro M1 L1 ⟨y1, y2, y3⟩
        dsimp only at y1 y2 y3
        rw [if_pos (by omega)] at y1
        have ej : j + 1 = csN (p.1 2 m) := by omega
        rw [ej, ← show (goP m τ p).1 = mset (coP m (csN (p.1 2 m)) p).1 3 m 3 by rw [eg], ← show (goP m τ p).2 = (coP m (csN (p.1 2 m)) p).2 by rw [eg]] at y1
        have g3 : (goP m τ p).1 3 m = 3 := by
          rw [eg]
          exact mset_s
        have g0 : (goP m τ p).1 0 0 = p.1 0 0 := go_r (by omega) (by omega) (by omega)
        have t2 := (y1.2.2.1 m h1 (by rw [g0]; exact h2)).2.2.1
        rw [g3] at t2
        refine stop g M1 L1 3 (by omega) t2 (by omega) (by omega) (by omega) (hQ M1 L1 e y1 (eR_0 ?_) (fun a y u => ?_) (fun a y u => ?_))
        · rw [eg]
          exact co_b (by omega) _ _
        · rw [y2 a y (by omega)]; exact fM a y u
        · rw [y3 a y (by omega)]; exact fL a y u
      | succ k ih =>
        intro j f M' L' hj hf T q4 q5 fM fL
        obtain ⟨g, rfl⟩ : ∃ g, f = g + 1 := ⟨f - 1, by omega⟩
        have c3 : (coP m j p).1 3 m = 2 := by rw [co_r (by omega) (by omega)]; exact a2
        have c0 : (coP m j p).1 0 0 = p.1 0 0 := co_r (by omega) (by omega) _ _
        have t := (T.2.2.1 m h1 (by rw [c0]; exact h2)).2
        unfold TmS at t
        rw [c3] at t
        simp (disch := omega) only [mset_n] at t
        unfold fX17_moment_h10
        rw [mloop_S]
        show wq (fX17_moment_i10 fu r2 (fX17_moment_h10 fu r2 g) (sI m) M' L') Q
        unfold fX17_moment_i10
        rw [due_2 (by omega) t.2.1 (t.2.2.2.2.2 trivial).2.2 T.1.2.1, mb3_s, if_neg (by decide), mck_s (by omega) (by omega), sI_nn (by omega), t.2.1, if_neg (by decide)]
        refine wq_b2 (m_sendNext17 (by omega) hW h1 h2 a2 (by omega) (by omega) T q4 q5) ?_
        rintro M1 L1 ⟨y1, y2, y3⟩
        dsimp only at y1 y2 y3
        rw [if_neg (by omega)] at y1
        refine ih (j + 1) g M1 L1 (by omega) (by omega) y1.1 y1.2.1 y1.2.2 (fun a y u => ?_) (fun a y u => ?_)
        · rw [y2 a y (by omega)]; exact fM a y u
        · rw [y3 a y (by omega)]; exact fL a y u
    have m4 := tm.2.2.1 (Or.inr a2)
    have m5 := tm.2.2.2.1 (by omega)
    refine key (csN (p.1 2 m) - 1) 0 fu M L (by omega) (by omega) ?_ m4 m5 (fun _ _ _ => rfl) (fun _ _ _ => rfl)
    have e1 : mset (mset M 874 m (sI 6)) 875 m (sI 0) = M := by
      rw [mset_id (M := M) m4, mset_id m5]
    rw [e1]
    exact h
  · by_cases a1 : p.1 3 m = 1
    · have tt := ht a1
      by_cases a3 : τ - p.1 4 m = 1000
      · have eg : goP m τ p = (mset p.1 3 m 4, mset p.2 2 0 true) := by unfold goP; rw [if_neg a2, if_pos ⟨a1, by omega⟩]
        obtain ⟨g, hg⟩ : ∃ g, fu = g + 1 := ⟨fu - 1, by omega⟩
        have q873 : M 873 m = sI 1 := by rw [tm.2.1, a1]
        have step : wq (fX17_moment_i10 fu r2 (fX17_moment_h10 fu r2 g) (sI m) M L) Q := by
          unfold fX17_moment_i10
          rw [due_1 (by omega) q873 (tm.2.2.2.2.1 a1) h.1.2.1 tt.1 (by omega), mb3_s, if_neg (by rw [decide_eq_true a3]; decide), mck_s (by omega) (by omega), sI_nn (by omega), q873, if_pos (show sI 1 = 1 from rfl)]
          unfold DX17_endSender
          rw [mck_s (by omega) (by omega), sI_nn (by omega)]
          simp only [mlet]
          rw [mck_in (show vp_in 1 8 from sI_in (k := 1) (by omega) (by omega)), mck_in (show vp_in 1 8 from sI_in (k := 1) (by omega) (by omega)), mb2_s]
          have e901 := h.2.2.2.2.2.2 1 (by omega)
          refine stop g _ L 4 (by omega) (by rw [mset_n (by omega), mset_s]; rfl) (by omega) (by omega) (by omega) (hQ _ L (eU e 1) ?_ (eR_1 (by omega) (by rw [eg]; dsimp only; rw [mset_s])) (fun a y u => by rw [mset_n (by omega), mset_n (by omega)]) (fun _ _ _ => rfl))
          rw [eg]
          dsimp only
          refine TfM_ch h (fun a y u => by rw [mset_n (by omega), mset_n (by omega)]) h.1.2.1 (fun i j u v => mset_n (by omega)) (fun x u v => ?_) (fun x u v => ?_) (fun r u => ?_) (fun f u => ?_) (fun k u => ?_)
          · have t := (h.2.2.1 x u v).2
            unfold TmS at t ⊢
            by_cases hq : x = m
            · subst hq
              rw [a1] at t
              rw [mset_s]
              simp (disch := omega) only [mset_n, mset_s]
              refine ⟨?_, rfl, fun z => by omega, fun z => by omega, fun z => by omega, fun z => by omega⟩
              rw [t.1]
              rfl
            · rw [mset_j hq]
              simp (disch := omega) only [mset_n]
              exact t
          · have t := h.2.2.2.1 x u v
            simp (disch := omega) only [mset_n]
            exact t
          · have t := h.2.2.2.2.1 r u
            unfold TmR at t ⊢
            simp (disch := omega) only [mset_n]
            exact t
          · have t := (h.2.2.2.2.2.1 f u).2.2.2.2.2.1
            simp (disch := omega) only [mset_n]
            exact t
          · by_cases hq : k = 1
            · subst hq
              show mset (mset M 873 m 4) 901 1 _ 901 1 = sI (eU e 1 1)
              rw [mset_s, show mset M 873 m 4 901 (1 : Int32).toNatClampNeg = M 901 1 from mset_n (by omega), e901, sI_1]
              rfl
            · show mset (mset M 873 m 4) 901 1 _ 901 k = sI (eU e 1 k)
              rw [mset_j hq, mset_n (by omega), h.2.2.2.2.2.2 k u]
              unfold eU
              rw [if_neg hq]
        show wq (mloop (fun r10 s => fX17_moment_i10 fu r2 r10 s.1 s.2.1 s.2.2) fu (sI m, M, L)) Q
        have e0 : mloop (fun r10 s => fX17_moment_i10 fu r2 r10 s.1 s.2.1 s.2.2) fu (sI m, M, L) = mloop (fun r10 s => fX17_moment_i10 fu r2 r10 s.1 s.2.1 s.2.2) (g + 1) (sI m, M, L) := by
          congr 1
        rw [e0, mloop_S]
        exact step
      · have eg : goP m τ p = p := by unfold goP; rw [if_neg a2, if_neg (by omega)]
        rw [eg] at hQ
        obtain ⟨g, hg⟩ : ∃ g, fu = g + 1 := ⟨fu - 1, by omega⟩
        have q873 : M 873 m = sI 1 := by rw [tm.2.1, a1]
        show wq (mloop (fun r10 s => fX17_moment_i10 fu r2 r10 s.1 s.2.1 s.2.2) fu (sI m, M, L)) Q
        have e0 : mloop (fun r10 s => fX17_moment_i10 fu r2 r10 s.1 s.2.1 s.2.2) fu (sI m, M, L) = mloop (fun r10 s => fX17_moment_i10 fu r2 r10 s.1 s.2.1 s.2.2) (g + 1) (sI m, M, L) := by
          congr 1
        rw [e0, mloop_S]
        show wq (fX17_moment_i10 fu r2 (fX17_moment_h10 fu r2 g) (sI m) M L) Q
        unfold fX17_moment_i10
        rw [due_1 (by omega) q873 (tm.2.2.2.2.1 a1) h.1.2.1 tt.1 (by omega), mb3_s, if_pos (by rw [decide_eq_false a3]; rfl)]
        simp only [mlet]
        rw [sI_1]
        exact hQ M L e h (eR_0 rfl) (fun _ _ _ => rfl) (fun _ _ _ => rfl)
    · have eg : goP m τ p = p := by unfold goP; rw [if_neg a2, if_neg (by omega)]
      rw [eg] at hQ
      exact stop fu M L (p.1 3 m) (by omega) tm.2.1 hM.2.2.2.1 a1 a2 (hQ M L e h (eR_0 rfl) (fun _ _ _ => rfl) (fun _ _ _ => rfl))
