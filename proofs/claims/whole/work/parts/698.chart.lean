/-! what a chart tells -/
theorem m_event0 {fu : Nat} {M : mwM} {L : mwL} {q e t nw : Nat} {va : Nat → Int32} {w : ZT} (hf : 1100 ≤ fu) (hw : WI w) (h : RmW q M L va w) (ht : t ≤ 20000) (he : e < 1000) (hnw : L q 28 = sL nw) (hnt : nw ≤ t) (hdf : dfl w.1.1 0 = 0) : wq (DX13_event fu q (sI e) (sL t) M L) (fun z => z.1 = -3 ∧ RmW q z.2.1 L va w ∧ frMc q M z.2.1 ∧ z.2.2 = L) := by
  have hv := hw.1
  have hT := hv.1
  have hN := hT.1
  have hM0 : TrM (mset M q 0 0) q (w.1.1 0 0) (w.1.1 1) (w.1.1 2) (w.1.1 3) := TrM_f h.1 (mset_j (by omega)) (fun a s u1 u2 => mset_k (by omega))
  have ech := m_child (fu := fu) (L := L) (w := false) (ac := fun _ => false) (s := 0) (by omega) hT hM0 (fun z => by cases z) (Nat.zero_le _)
  have hdl : chF (w.1.1 1) (w.1.1 2) (w.1.1 0 0) (fun c => !false || false) 0 = dfl w.1.1 0 := rfl
  rw [hdl, hdf] at ech
  unfold DX13_event
  simp only [mlet]
  rw [if_neg (by rw [show (0 : Int32) = sI 0 from rfl, sI_lt (by omega) (by omega)]; omega), if_neg (by rw [sI_llt (by decide) (by omega)]; omega), hnw, if_neg (fun z => by
    have := (lg_cmp_lt _ _).mp z
    rw [sL_lt (by omega) (by omega)] at this
    omega), if_neg (fun z => by
    have := (lg_cmp_lt _ _).mp z
    rw [show (0 : Int64) = sL 0 from rfl, sL_lt (by omega) (by omega)] at this
    omega), if_pos ((lg_cmp_le _ _).mpr (by
    rw [Int64.le_iff_toInt_le, sL_toInt (by omega), show (4611686018427387904 : Int64).toInt = 4611686018427387904 from by decide]
    omega)), show DX13_child fu q 0 0 (mset M q 0 0) L = _ from ech, mb3_s, if_pos (show sI 0 = 0 from rfl)]
  refine wq_some ⟨rfl, ?_, fun a y u => mset_n (by omega), rfl⟩
  exact RmW_n h (by dsimp only; rw [mset_j (by omega)]; exact h.2.2.2.1.2.2.2.2.2.2) (fun a y u1 u2 u3 => mset_n (by omega))
/-- the innermost active state -/
def inN (c : Nat → Nat → Nat) (b : Nat → Nat → Bool) : Nat → Nat → Nat
  | 0, s => s
  | m + 1, s => if chK c b s = 0 then s else inN c b m (chK c b s)
theorem chK_act {c : Nat → Nat → Nat} {b : Nat → Nat → Bool} {s : Nat} (hT : Tr (c 0 0) (c 1) (c 2) (c 3)) (h : chK c b s ≠ 0) : 1 ≤ chK c b s ∧ chK c b s ≤ c 0 0 ∧ b 0 (chK c b s) = true ∧ c 3 (chK c b s) = c 3 s + 1 := by
  unfold chK at h ⊢
  by_cases hq : c 2 s = 0 ∧ (s = 0 ∨ b 0 s = true)
  · rw [if_pos hq] at h ⊢
    have := ch_act h
    refine ⟨this.1, this.2.1, this.2.2.2.2, ?_⟩
    rw [(hT.2.2.2.2 _ this.1 this.2.1).2.1, this.2.2.1]
  · rw [if_neg hq] at h
    exact absurd rfl h
theorem c_innermost {fu : Nat} {A : mwM} {L : mwL} {k s : Nat} {c : Nat → Nat → Nat} {b : Nat → Nat → Bool} {va : Nat → Int32} {D : Nat → Int64} {x : Nat → Int32} (hf : 43 ≤ fu) (hv : Cv c) (h : ReC k A L c b va D x) (hs : s ≤ c 0 0) : DX2_innermost fu k (sI s) A L = some (sI (if s = 0 ∨ b 0 s = true then inN c b (41 - c 3 s) s else 0), A, L) := by
  have hT := hv.1
  have hN := hT.1
  have key : ∀ (m s v f : Nat), c 3 s + m = 41 → s ≤ c 0 0 → v + m ≤ 41 → m < f → ∀ s0, fX2_innermost_h21 fu k s0 f (sI s, sI v, A, L) = some (sI (inN c b m s), A, L) := by
    intro m
    induction m with
    | zero =>
      intro s v f hm hs2 hv2 hf1 s0
      have := (Tr_pa hT hs2).2.2.2.2
      omega
    | succ m ih =>
      intro s v f hm hs2 hv2 hf1 s0
      obtain ⟨g, rfl⟩ : ∃ g, f = g + 1 := ⟨f - 1, by omega⟩
      have e8 := (h.2.2.2.2.1 s hs2).2.2.1
      have ckl : chK c b s ≤ c 0 0 := by
        unfold chK
        split
        · exact ch_le
        · omega
      have e0 : inN c b (m + 1) s = if chK c b s = 0 then s else inN c b m (chK c b s) := rfl
      rw [e0]
      unfold fX2_innermost_h21
      rw [mloop_S]
      show fX2_innermost_i21 fu k s0 (fX2_innermost_h21 fu k s0 g) (sI s) (sI v) A L = _
      unfold fX2_innermost_i21 fX2_innermost_b55
      simp (disch := omega) only [e8, mck_s, sI_nn, nn_s, sI_lt, sI_le, sI_eq, sI_ltl, sI_lel, sI_eql, sI_llt, sI_lle, sI_1, bI_0, bI_1, bI_n, mlet, mb3_s, mb2_s]
      rw [if_neg (by omega)]
      by_cases hq : chK c b s = 0
      · rw [if_pos hq, if_pos hq]
      · rw [if_neg hq, if_neg hq]
        have ha := chK_act hT hq
        exact ih (chK c b s) (v + 1) g (by omega) ha.2.1 (by omega) (by omega) s0
  have hde := (Tr_pa hT hs).2.2.2.2
  have b17 : fX2_innermost_b17 fu k (sI s) A L = some (sI (inN c b (41 - c 3 s) s), A, L) := by
    unfold fX2_innermost_b17
    exact key (41 - c 3 s) s 0 fu (by omega) hs (by omega) (by omega) (sI s)
  unfold DX2_innermost
  by_cases h0 : s = 0
  · rw [if_pos (by rw [h0]; rfl), b17, if_pos (Or.inl h0)]
  · rw [if_neg (by rw [sI_eql (by omega) (by decide)]; exact h0), mck_s (by omega) (by omega), sI_nn (by omega), (h.2.2.2.2.2.1 s (by omega) hs).1, b17]
    cases hb : b 0 s with
    | false =>
      rw [if_pos bI_f, if_neg (fun z => by rcases z with w | w; exact h0 w; cases w)]
      rfl
    | true => rw [if_neg (by decide), if_pos (Or.inr rfl)]
theorem m_active {fu : Nat} {M : mwM} {L : mwL} {q s : Nat} {c : Nat → Nat → Nat} {b : Nat → Nat → Bool} {va : Nat → Int32} {D : Nat → Int64} {x : Nat → Int32} (hf : 202 ≤ fu) (hv : Cv c) (h : ReM q M L c b va D x) (hs : s ≤ c 0 0) : DX13_active fu q (sI s) M L = some ((if b 6 0 = true then sI (if s = 0 ∨ b 0 s = true then inN c b (41 - c 3 s) s else 0) else -3), mset M q 0 0, L) := by
  have hT := hv.1
  have hN := hT.1
  have h0 : ReM q (mset M q 0 0) L c b va D x := ReM_f h (fun a y _ _ u => mset_n (by omega)) (fun _ _ _ => rfl)
  have e1 := m_noneC (fu := fu) (L := L) (p := s) h0.1.1 hN (by omega)
  rw [decide_eq_false (by omega)] at e1
  have hac : ∀ t, 1 ≤ t → t ≤ c 0 0 → mset M q 0 0 (q + 9) t = bI (b 0 t) := fun t u1 u2 => (h0.2.2.2.2.2.1 t u1 u2).1
  have key : ∀ (m s f : Nat), c 3 s + m = 41 → s ≤ c 0 0 → (s = 0 ∨ b 0 s = true) → m < f → ∀ s0, fX13_active_h38 fu q s0 f (sI s, mset M q 0 0, L) = some (sI (inN c b m s), mset M q 0 0, L) := by
    intro m
    induction m with
    | zero =>
      intro s f hm hs2 hb hf1 s0
      have := (Tr_pa hT hs2).2.2.2.2
      omega
    | succ m ih =>
      intro s f hm hs2 hb hf1 s0
      obtain ⟨g, rfl⟩ : ∃ g, f = g + 1 := ⟨f - 1, by omega⟩
      have hps := Tr_pa hT hs2
      have ech := m_child (fu := fu) (L := L) (w := true) (ac := b 0) (s := s) (by omega) hT h0.1 (fun _ => hac) hs2
      have hch : chF (c 1) (c 2) (c 0 0) (fun c => !true || b 0 c) s = chF (c 1) (c 2) (c 0 0) (b 0) s := rfl
      rw [hch, bI_t] at ech
      have e2 := (h0.1.2 s hs2).2.1
      have e0 : inN c b (m + 1) s = if chK c b s = 0 then s else inN c b m (chK c b s) := rfl
      have hle : chF (c 1) (c 2) (c 0 0) (b 0) s ≤ c 0 0 := ch_le
      rw [e0]
      unfold fX13_active_h38
      rw [mloop_S]
      show fX13_active_i38 fu q s0 (fX13_active_h38 fu q s0 g) (sI s) (mset M q 0 0) L = _
      unfold fX13_active_i38 fX13_active_b66
      simp (disch := omega) only [e2, ech, mck_s, sI_nn, nn_s, sI_lt, sI_le, sI_eq, sI_ltl, sI_lel, sI_eql, sI_llt, sI_lle, sI_1, bI_0, bI_1, bI_n, mlet, mb3_s, mb2_s]
      by_cases hk : c 2 s = 0
      · have eK : chK c b s = chF (c 1) (c 2) (c 0 0) (b 0) s := by
          unfold chK
          rw [if_pos ⟨hk, hb⟩]
        rw [if_pos hk, eK]
        by_cases hz : chF (c 1) (c 2) (c 0 0) (b 0) s = 0
        · rw [if_pos (by omega), if_pos hz]
        · rw [if_neg (by omega), if_neg hz, ← eK]
          have ha := chK_act hT (show chK c b s ≠ 0 by rw [eK]; exact hz)
          exact ih (chK c b s) g (by omega) ha.2.1 (Or.inr ha.2.2.1) (by omega) s0
      · have eK : chK c b s = 0 := by
          unfold chK
          rw [if_neg (fun z => hk z.1)]
        rw [if_neg hk, eK, if_pos rfl]
  have hde := (Tr_pa hT hs).2.2.2.2
  have e27 : mset M q 0 0 q 27 = bI (b 6 0) := h0.2.2.2.1.2.2.2.2.1
  have e9 : mset M q 0 0 (q + 9) s = bI (if s = 0 then b 6 0 else b 0 s) := by
    by_cases hz : s = 0
    · rw [if_pos hz, hz]; exact h0.2.2.2.2.2.2.1
    · rw [if_neg hz]; exact hac s (by omega) hs
  unfold DX13_active
  simp only [mlet]
  rw [e1, mb3_s, if_pos bI_f, e27]
  cases hst : b 6 0 with
  | false =>
    rw [if_pos bI_f, if_neg (by decide)]
  | true =>
    rw [if_neg (by decide), if_pos rfl, mck_s (by omega) (by omega), sI_nn (by omega), e9, hst]
    by_cases hz : s = 0
    · rw [if_pos hz, if_neg (by decide), if_pos (Or.inl hz)]
      exact key _ s fu (by omega) hs (Or.inl hz) (by omega) (sI s)
    · rw [if_neg hz]
      cases hb : b 0 s with
      | false =>
        rw [if_pos bI_f, if_neg (fun z => by rcases z with w | w; exact hz w; cases w)]
        rfl
      | true =>
        rw [if_neg (by decide), if_pos (Or.inr rfl)]
        exact key _ s fu (by omega) hs (Or.inr hb) (by omega) (sI s)
/-- how many -/
def ctN (p : Nat → Bool) : Nat → Nat
  | 0 => 0
  | n + 1 => ctN p n + (if p (n + 1) = true then 1 else 0)
theorem ct_le {p : Nat → Bool} : ∀ n, ctN p n ≤ n := by
  intro n
  induction n with
  | zero => exact Nat.le_refl _
  | succ n ih =>
    show ctN p n + (if p (n + 1) = true then 1 else 0) ≤ n + 1
    split <;> omega
def cvF (c : Nat → Nat → Nat) (b : Nat → Nat → Bool) (x : Nat → Int32) (j : Nat) : Int32 := if j = 0 then sI (ctN (b 2) (c 0 0)) else if j = 4 then x 1 else sI (ctN (b (j + 2)) (c 0 1))
theorem bI_sI {b : Bool} : bI b = sI (if b = true then 1 else 0) := by cases b <;> rfl
theorem sn_1 (u h f : Bool) : (sI (sn u h f) &&& 1 = 0) ↔ u = false := by cases u <;> cases h <;> cases f <;> decide
theorem sn_2 (u h f : Bool) : (sI (sn u h f) &&& 2 = 0) ↔ h = false := by cases u <;> cases h <;> cases f <;> decide
theorem sn_4 (u h f : Bool) : (sI (sn u h f) &&& 4 = 0) ↔ f = false := by cases u <;> cases h <;> cases f <;> decide
theorem c_covered {fu : Nat} {A : mwM} {L : mwL} {k j : Nat} {c : Nat → Nat → Nat} {b : Nat → Nat → Bool} {va : Nat → Int32} {D : Nat → Int64} {x : Nat → Int32} (hf : 402 ≤ fu) (hv : Cv c) (h : ReC k A L c b va D x) (hj : j ≤ 4) : DX2_covered fu k (sI j) A L = some (cvF c b x j, A, L) := by
  have hN := hv.1.1
  have hE4 := hv.2.1.1
  -- edges
  have edges : ∀ (j : Nat) (mk : Int32) (p : Nat → Bool), (∀ e, 1 ≤ e → e ≤ c 0 1 → (A (k + 26) e &&& mk = 0 ↔ p e = false)) → fX2_covered_b65 fu k (sI j) 0 mk A L = some (sI (ctN p (c 0 1)), A, L) := by
    intro j mk p hp
    unfold fX2_covered_b65
    have hh := wq_for (body := fun r z => fX2_covered_i69 fu k (sI j) r z.1 z.2.1 z.2.2.1 z.2.2.2.1 z.2.2.2.2) (Q := fun z => z = (sI (ctN p (c 0 1)), A, L)) (fun i (_ : Unit) => (sI (ctN p (i - 1)), mk, sI i, A, L)) (fun i _ => 1 ≤ i) (c 0 1 + 1) ?_ ?_ (c 0 1) 1 () fu (by omega) (by omega) (Nat.le_refl _)
    · obtain ⟨z, hz, rfl⟩ := hh
      exact hz
    · intro i _ r hi hi1 ih
      obtain ⟨n, rfl⟩ : ∃ n, i = n + 1 := ⟨i - 1, by omega⟩
      have ih2 := ih () (by omega)
      simp only [show n + 1 + 1 - 1 = n + 1 from rfl] at ih2
      have e0 : ctN p (n + 1) = ctN p n + (if p (n + 1) = true then 1 else 0) := rfl
      rw [e0] at ih2
      show wq (fX2_covered_i69 fu k (sI j) r (sI (ctN p n)) mk (sI (n + 1)) A L) _
      unfold fX2_covered_i69 fX2_covered_b98
      rw [h.2.1.1, if_neg (by rw [sI_lt (by omega) (by omega)]; omega), mck_s (by omega) (by omega), sI_nn (by omega)]
      simp only [mlet]
      rw [sI_1]
      cases hpe : p (n + 1) with
      | false =>
        rw [if_pos ((hp (n + 1) (by omega) (by omega)).mpr hpe), Int32.add_zero]
        rw [hpe, if_neg (by decide)] at ih2
        exact ih2
      | true =>
        rw [if_neg (fun z => by rw [(hp (n + 1) (by omega) (by omega)).mp z] at hpe; cases hpe), sI_1]
        rw [hpe, if_pos rfl] at ih2
        exact ih2
    · intro _ r _
      show wq (fX2_covered_i69 fu k (sI j) r (sI (ctN p (c 0 1))) mk (sI (c 0 1 + 1)) A L) _
      unfold fX2_covered_i69
      rw [h.2.1.1, if_pos (by rw [sI_lt (by omega) (by omega)]; omega)]
      exact wq_some rfl
  have h8 := h.2.2.2.2.2.2.2
  unfold DX2_covered cvF
  rcases (show j = 0 ∨ j = 1 ∨ j = 2 ∨ j = 3 ∨ j = 4 by omega) with rfl | rfl | rfl | rfl | rfl
  · rw [if_pos (show sI 0 = 0 from rfl), if_pos (show (0 : Nat) = 0 from rfl)]
    have hh := wq_for (body := fun r z => fX2_covered_i8 fu k (sI 0) r z.1 z.2.1 z.2.2.1 z.2.2.2) (Q := fun z => z = (sI (ctN (b 2) (c 0 0)), A, L)) (fun i (_ : Unit) => (sI (ctN (b 2) (i - 1)), sI i, A, L)) (fun i _ => 1 ≤ i) (c 0 0 + 1) ?_ ?_ (c 0 0) 1 () fu (by omega) (by omega) (Nat.le_refl _)
    · obtain ⟨z, hz, rfl⟩ := hh
      exact hz
    · intro i _ r hi hi1 ih
      obtain ⟨n, rfl⟩ : ∃ n, i = n + 1 := ⟨i - 1, by omega⟩
      have ih2 := ih () (by omega)
      simp only [show n + 1 + 1 - 1 = n + 1 from rfl] at ih2
      show wq (fX2_covered_i8 fu k (sI 0) r (sI (ctN (b 2) n)) (sI (n + 1)) A L) _
      have e17 := (h.2.2.2.2.2.1 (n + 1) (by omega) (by omega)).2.2.2
      unfold fX2_covered_i8
      rw [h.1.1, if_neg (by rw [sI_lt (by omega) (by omega)]; omega), mck_s (by omega) (by omega), sI_nn (by omega), e17, bI_sI]
      simp only [mlet]
      rw [sI_1, sI_add]
      exact ih2
    · intro _ r _
      show wq (fX2_covered_i8 fu k (sI 0) r (sI (ctN (b 2) (c 0 0))) (sI (c 0 0 + 1)) A L) _
      unfold fX2_covered_i8
      rw [h.1.1, if_pos (by rw [sI_lt (by omega) (by omega)]; omega)]
      exact wq_some rfl
  · rw [if_neg (show ¬ sI 1 = 0 by decide), if_neg (show ¬ sI 1 = 4 by decide), if_pos (show sI 1 = 1 from rfl), if_neg (show ¬ (1 : Nat) = 0 by omega), if_neg (show ¬ (1 : Nat) = 4 by omega)]
    exact edges 1 1 (b 3) (fun e u1 u2 => by rw [h8 e u1 u2]; exact sn_1 _ _ _)
  · rw [if_neg (show ¬ sI 2 = 0 by decide), if_neg (show ¬ sI 2 = 4 by decide), if_neg (show ¬ sI 2 = 1 by decide), if_pos (show sI 2 = 2 from rfl), if_neg (show ¬ (2 : Nat) = 0 by omega), if_neg (show ¬ (2 : Nat) = 4 by omega)]
    exact edges 2 2 (b 4) (fun e u1 u2 => by rw [h8 e u1 u2]; exact sn_2 _ _ _)
  · rw [if_neg (show ¬ sI 3 = 0 by decide), if_neg (show ¬ sI 3 = 4 by decide), if_neg (show ¬ sI 3 = 1 by decide), if_neg (show ¬ sI 3 = 2 by decide), if_neg (show ¬ (3 : Nat) = 0 by omega), if_neg (show ¬ (3 : Nat) = 4 by omega)]
    exact edges 3 4 (b 5) (fun e u1 u2 => by rw [h8 e u1 u2]; exact sn_4 _ _ _)
  · rw [if_neg (show ¬ sI 4 = 0 by decide), if_pos (show sI 4 = 4 from rfl), if_neg (show ¬ (4 : Nat) = 0 by omega), if_pos (show (4 : Nat) = 4 from rfl), h.2.2.2.1.2.2.2.1]
theorem m_covered {fu : Nat} {M : mwM} {L : mwL} {q j : Nat} {c : Nat → Nat → Nat} {b : Nat → Nat → Bool} {va : Nat → Int32} {D : Nat → Int64} {x : Nat → Int32} (hf : 402 ≤ fu) (hv : Cv c) (h : ReM q M L c b va D x) (hj : j ≤ 4) : DX13_covered fu q (sI j) M L = some (cvF c b x j, mset M q 0 0, L) := by
  have hN := hv.1.1
  have hE4 := hv.2.1.1
  have h0 : ReM q (mset M q 0 0) L c b va D x := ReM_f h (fun a y _ _ u => mset_n (by omega)) (fun _ _ _ => rfl)
  unfold DX13_covered
  simp only [mlet]
  rw [if_neg (by rw [show (0 : Int32) = sI 0 from rfl, sI_lt (by omega) (by omega)]; omega), if_pos (by rw [sI_lel (by omega) (by decide)]; exact hj)]
  generalize mset M q 0 0 = G at *
  have edges : ∀ (j : Nat) (p : Nat → Bool), 1 ≤ j → j ≤ 3 → (∀ e, 1 ≤ e → e ≤ c 0 1 → G (q + 13 + j) e = bI (p e)) → fX13_covered_b66 fu q (sI j) 0 G L = some (sI (ctN p (c 0 1)), G, L) := by
    intro j p hj1 hj2 hp
    unfold fX13_covered_b66
    have hh := wq_for (body := fun r z => fX13_covered_i68 fu q (sI j) r z.1 z.2.1 z.2.2.1 z.2.2.2) (Q := fun z => z = (sI (ctN p (c 0 1)), G, L)) (fun i (_ : Unit) => (sI (ctN p (i - 1)), sI i, G, L)) (fun i _ => 1 ≤ i) (c 0 1 + 1) ?_ ?_ (c 0 1) 1 () fu (by omega) (by omega) (Nat.le_refl _)
    · obtain ⟨z, hz, rfl⟩ := hh
      exact hz
    · intro i _ r hi hi1 ih
      obtain ⟨n, rfl⟩ : ∃ n, i = n + 1 := ⟨i - 1, by omega⟩
      have ih2 := ih () (by omega)
      simp only [show n + 1 + 1 - 1 = n + 1 from rfl] at ih2
      have e0 : ctN p (n + 1) = ctN p n + (if p (n + 1) = true then 1 else 0) := rfl
      rw [e0] at ih2
      show wq (fX13_covered_i68 fu q (sI j) r (sI (ctN p n)) (sI (n + 1)) G L) _
      have hpe2 := hp (n + 1) (by omega) (by omega)
      have fin : wq (if bI (p (n + 1)) = 0 then fX13_covered_b129 fu q (sI j) r (sI (ctN p n)) (sI (n + 1)) G L else fX13_covered_b123 fu q (sI j) r (sI (ctN p n)) (sI (n + 1)) G L) (fun z => z = (sI (ctN p (c 0 1)), G, L)) := by
        unfold fX13_covered_b129 fX13_covered_b123 fX13_covered_b130
        simp only [mlet]
        rw [sI_1, sI_1]
        cases hpe : p (n + 1) with
        | false =>
          rw [if_pos bI_f]
          rw [hpe, if_neg (by decide)] at ih2
          exact ih2
        | true =>
          rw [if_neg (by decide)]
          rw [hpe, if_pos rfl] at ih2
          exact ih2
      unfold fX13_covered_i68
      rw [h0.2.1.1, if_neg (by rw [sI_lt (by omega) (by omega)]; omega), if_neg (by rw [sI_lel (by omega) (by decide)]; omega)]
      rcases (show j = 1 ∨ j = 2 ∨ j = 3 by omega) with rfl | rfl | rfl
      · rw [if_pos (show sI 1 = 1 from rfl), mck_s (by omega) (by omega), sI_nn (by omega), show G (q + 14) (n + 1) = bI (p (n + 1)) from hpe2]
        exact fin
      · rw [if_neg (show ¬ sI 2 = 1 by decide), if_pos (show sI 2 = 2 from rfl), mck_s (by omega) (by omega), sI_nn (by omega), show G (q + 15) (n + 1) = bI (p (n + 1)) from hpe2]
        exact fin
      · rw [if_neg (show ¬ sI 3 = 1 by decide), if_neg (show ¬ sI 3 = 2 by decide), mck_s (by omega) (by omega), sI_nn (by omega), show G (q + 16) (n + 1) = bI (p (n + 1)) from hpe2]
        exact fin
    · intro _ r _
      show wq (fX13_covered_i68 fu q (sI j) r (sI (ctN p (c 0 1))) (sI (c 0 1 + 1)) G L) _
      unfold fX13_covered_i68 fX13_covered_b137
      rw [h0.2.1.1, if_pos (by rw [sI_lt (by omega) (by omega)]; omega)]
      exact wq_some rfl
  have h8 := h0.2.2.2.2.2.2.2
  -- past the states
  have past : ∀ j : Nat, 1 ≤ j → j ≤ 3 → fX13_covered_h31 fu q (sI j) fu (0, 1, G, L) = fX13_covered_b66 fu q (sI j) 0 G L := by
    intro j hj1 hj2
    obtain ⟨f, hfu⟩ : ∃ f, fu = f + 1 := ⟨fu - 1, by omega⟩
    have : fX13_covered_h31 fu q (sI j) (f + 1) (0, 1, G, L) = fX13_covered_b66 fu q (sI j) 0 G L := by
      unfold fX13_covered_h31
      rw [mloop_S]
      show fX13_covered_i31 fu q (sI j) _ 0 1 G L = _
      unfold fX13_covered_i31
      split
      · rfl
      · rw [if_neg (by rw [sI_eql (by omega) (by decide)]; omega)]
    rw [← hfu] at this
    exact this
  unfold cvF
  rcases (show j = 0 ∨ j = 1 ∨ j = 2 ∨ j = 3 ∨ j = 4 by omega) with rfl | rfl | rfl | rfl | rfl
  · rw [if_neg (show ¬ sI 0 = 4 by decide), if_pos (show (0 : Nat) = 0 from rfl)]
    have hh := wq_for (body := fun r z => fX13_covered_i31 fu q (sI 0) r z.1 z.2.1 z.2.2.1 z.2.2.2) (Q := fun z => z = (sI (ctN (b 2) (c 0 0)), G, L)) (fun i (_ : Unit) => (sI (ctN (b 2) (i - 1)), sI i, G, L)) (fun i _ => 1 ≤ i) (c 0 0 + 1) ?_ ?_ (c 0 0) 1 () fu (by omega) (by omega) (Nat.le_refl _)
    · obtain ⟨z, hz, rfl⟩ := hh
      exact hz
    · intro i _ r hi hi1 ih
      obtain ⟨n, rfl⟩ : ∃ n, i = n + 1 := ⟨i - 1, by omega⟩
      have ih2 := ih () (by omega)
      simp only [show n + 1 + 1 - 1 = n + 1 from rfl] at ih2
      have e0 : ctN (b 2) (n + 1) = ctN (b 2) n + (if b 2 (n + 1) = true then 1 else 0) := rfl
      rw [e0] at ih2
      show wq (fX13_covered_i31 fu q (sI 0) r (sI (ctN (b 2) n)) (sI (n + 1)) G L) _
      have e8 := (h0.2.2.2.2.2.1 (n + 1) (by omega) (by omega)).2.2.2
      unfold fX13_covered_i31 fX13_covered_b59
      rw [h0.1.1, if_neg (by rw [sI_lt (by omega) (by omega)]; omega), if_pos (show sI 0 = 0 from rfl), mck_s (by omega) (by omega), sI_nn (by omega), e8]
      simp only [mlet]
      rw [sI_1, sI_1]
      cases hpe : b 2 (n + 1) with
      | false =>
        rw [if_pos bI_f]
        rw [hpe, if_neg (by decide)] at ih2
        exact ih2
      | true =>
        rw [if_neg (by decide)]
        rw [hpe, if_pos rfl] at ih2
        exact ih2
    · intro _ r _
      show wq (fX13_covered_i31 fu q (sI 0) r (sI (ctN (b 2) (c 0 0))) (sI (c 0 0 + 1)) G L) _
      unfold fX13_covered_i31 fX13_covered_b66
      rw [h0.1.1, if_pos (by rw [sI_lt (by omega) (by omega)]; omega)]
      obtain ⟨f, hfu⟩ : ∃ f, fu = f + 1 := ⟨fu - 1, by omega⟩
      have : wq (fX13_covered_h68 fu q (sI 0) (f + 1) (sI (ctN (b 2) (c 0 0)), 1, G, L)) (fun z => z = (sI (ctN (b 2) (c 0 0)), G, L)) := by
        unfold fX13_covered_h68
        rw [mloop_S]
        show wq (fX13_covered_i68 fu q (sI 0) _ (sI (ctN (b 2) (c 0 0))) 1 G L) _
        unfold fX13_covered_i68 fX13_covered_b137
        exact wq_if (fun _ => wq_some rfl) (fun _ => by rw [if_pos (by decide)]; exact wq_some rfl)
      rw [← hfu] at this
      exact this
  · rw [if_neg (show ¬ sI 1 = 4 by decide), if_neg (show ¬ (1 : Nat) = 0 by omega), if_neg (show ¬ (1 : Nat) = 4 by omega), past 1 (by omega) (by omega)]
    exact edges 1 (b 3) (by omega) (by omega) (fun e u1 u2 => (h8 e u1 u2).1)
  · rw [if_neg (show ¬ sI 2 = 4 by decide), if_neg (show ¬ (2 : Nat) = 0 by omega), if_neg (show ¬ (2 : Nat) = 4 by omega), past 2 (by omega) (by omega)]
    exact edges 2 (b 4) (by omega) (by omega) (fun e u1 u2 => (h8 e u1 u2).2.1)
  · rw [if_neg (show ¬ sI 3 = 4 by decide), if_neg (show ¬ (3 : Nat) = 0 by omega), if_neg (show ¬ (3 : Nat) = 4 by omega), past 3 (by omega) (by omega)]
    exact edges 3 (b 5) (by omega) (by omega) (fun e u1 u2 => (h8 e u1 u2).2.2)
  · rw [if_pos (show sI 4 = 4 from rfl), if_neg (show ¬ (4 : Nat) = 0 by omega), if_pos (show (4 : Nat) = 4 from rfl), h0.2.2.2.1.2.2.2.1]
