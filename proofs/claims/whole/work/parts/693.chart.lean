/-! chains of the reference -/
theorem m_selZ {fu : Nat} {M : mwM} {L : mwL} {q v : Nat} {va : Nat → Int32} {w : ZT} (hf : 402 ≤ fu) (hw : InW w) (h : RmW q M L va w) (hv : v < 2000) : wq (DX13_choose fu q (sI v) M L) (fun z => z.1 = sI (tkZ v w).length ∧ z.2.2 = L ∧ RmW q z.2.1 L va (seZ v w) ∧ LiZ z.2.1 (q + 24) (tkZ v w) ∧ z.2.1 q 35 = sI (tkZ v w).length ∧ ∀ a y, ¬ (q ≤ a ∧ a ≤ q + 29) → z.2.1 a y = M a y) := m_chooseC hf hw.1 h hv
theorem tkZ_len {v : Nat} {w : ZT} (hw : InW w) : (tkZ v w).length ≤ 400 := by
  have h1 := tk_len (b := w.1.2.1) (D := w.1.2.2) (v := v) hw.1
  have h2 := hw.1.2.1.1
  unfold tkZ
  omega
theorem m_stepZ {fu : Nat} {M : mwM} {L : mwL} {q v now : Nat} {va : Nat → Int32} {w : ZT} (hf : 601 ≤ fu) (hw : InW w) (h : RmW q M L va (seZ v w)) (hR : LiZ M (q + 24) (tkZ v w)) (hR2 : M q 35 = sI (tkZ v w).length) : wq (DX13_step fu q (sL now) M L) (fun z => z.1 = sI (tkZ v w).length ∧ RmW q z.2.1 z.2.2 va (gZ va now v w) ∧ (∀ a y, ¬ (q ≤ a ∧ a ≤ q + 29) → z.2.1 a y = M a y) ∧ ∀ a, a ≠ q + 6 → a ≠ q + 21 → z.2.2 a = L a) := by
  refine wq_mono (m_stepC (now := now) hf (In_se (v := v) hw) h hR hR2 (tkZ_len hw)) ?_
  rintro ⟨r, M1, L1⟩ ⟨y1, y2, y3, y4, y5⟩
  exact ⟨y1, y3, y4, y5⟩
theorem m_chain {fu : Nat} {M : mwM} {L : mwL} {q now : Nat} {va : Nat → Int32} {w : ZT} (hf : 601 ≤ fu) (hw : InW w) (h : RmW q M L va w) : wq (DX13_chain fu q (sL now) M L) (fun z => (if (chN va now (w.1.1 0 3) w).1 = true then ∃ m, m ≤ 20000 ∧ z.1 = sI m else z.1 = -1) ∧ RmW q z.2.1 z.2.2 va (chN va now (w.1.1 0 3) w).2 ∧ (∀ a y, ¬ (q ≤ a ∧ a ≤ q + 29) → z.2.1 a y = M a y) ∧ ∀ a, a ≠ q + 6 → a ≠ q + 21 → z.2.2 a = L a) := by
  have hl := hw.1.2.2.2.1
  generalize hQ : (fun z : Int32 × mwM × mwL => (if (chN va now (w.1.1 0 3) w).1 = true then ∃ m, m ≤ 20000 ∧ z.1 = sI m else z.1 = -1) ∧ RmW q z.2.1 z.2.2 va (chN va now (w.1.1 0 3) w).2 ∧ (∀ a y, ¬ (q ≤ a ∧ a ≤ q + 29) → z.2.1 a y = M a y) ∧ ∀ a, a ≠ q + 6 → a ≠ q + 21 → z.2.2 a = L a) = Q
  have key : ∀ (n i m f : Nat) (u : ZT) (a : mwM) (l : mwL), i + n = w.1.1 0 3 → m ≤ 400 * i → n < f → InW u → RmW q a l va u → u.1.1 0 3 = w.1.1 0 3 → chN va now n u = chN va now (w.1.1 0 3) w → (∀ b y, ¬ (q ≤ b ∧ b ≤ q + 29) → a b y = M b y) → (∀ b, b ≠ q + 6 → b ≠ q + 21 → l b = L b) → wq (fX13_chain_h5 fu q (sL now) f (sI m, sI i, a, l)) Q := by
    intro n
    induction n with
    | zero =>
      intro i m f u a l hi hm hf1 hu hr hlim hch p1 p2
      obtain ⟨g, rfl⟩ : ∃ g, f = g + 1 := ⟨f - 1, by omega⟩
      unfold fX13_chain_h5
      rw [mloop_S]
      show wq (fX13_chain_i5 fu q (sL now) (fX13_chain_h5 fu q (sL now) g) (sI m) (sI i) a l) Q
      unfold fX13_chain_i5
      refine wq_b3 (m_selZ (v := 0) (by omega) hu hr (by omega)) ?_
      rintro r1 M1 L1 ⟨y1, y2, y3, y4, y6, y5⟩
      dsimp only at y1 y2 y3 y4 y5 y6
      subst y1 y2
      have e0 : chN va now 0 u = (decide ((tkZ 0 u).length = 0), seZ 0 u) := rfl
      rw [e0] at hch
      have hlz := tkZ_len (v := 0) hu
      have e1 : M1 q 1 = sI (w.1.1 0 3) := by
        have : M1 q 1 = sI ((seZ 0 u).1.1 0 3) := y3.2.2.2.1.1
        rw [this]
        congr 1
      by_cases hz : (tkZ 0 u).length = 0
      · rw [if_pos (by rw [hz]; decide)]
        rw [← hQ, ← hch]
        refine wq_some ⟨?_, y3, fun b y u1 => (y5 b y u1).trans (p1 b y u1), p2⟩
        dsimp only
        rw [if_pos (decide_eq_true hz)]
        exact ⟨m, by omega, rfl⟩
      · rw [if_neg (by rw [sI_lel (by omega) (by decide)]; omega), e1, if_pos (by rw [show i = w.1.1 0 3 by omega])]
        obtain ⟨rw1, k5, k6⟩ := y3.2.2.2.1.2.2.2.2.2.2
        refine wq_b2 (m_note (rw' := rw1) k6 k5) ?_
        rintro M2 L2 ⟨z1, ⟨rw2, z3, z4⟩, z2⟩
        dsimp only at z1 z2 z4
        subst z1
        rw [← hQ, ← hch]
        refine wq_some ⟨?_, ?_, fun b y u1 => ?_, p2⟩
        all_goals (try dsimp only)
        · rw [if_neg (by simp [hz])]
        · obtain ⟨j1, j2, j3, j4, j5, j6, j7, j8⟩ := y3
          refine ⟨TrM_f j1 (z2 _ _ (by omega) (by omega)) (fun a s u1 u2 => z2 _ _ (by omega) (by omega)), ?_, ?_, ?_, ?_, ?_, ?_, ?_⟩
          · refine ⟨?_, fun e u1 u2 => ?_⟩
            · simp (disch := omega) only [z2]; exact j2.1
            · simp (disch := omega) only [z2]; exact j2.2 e u1 u2
          · refine ⟨?_, fun i hi => ?_⟩
            · simp (disch := omega) only [z2]; exact j3.1
            · simp (disch := omega) only [z2]; exact j3.2 i hi
          · simp (disch := omega) only [z2]
            exact ⟨j4.1, j4.2.1, j4.2.2.1, j4.2.2.2.1, j4.2.2.2.2.1, j4.2.2.2.2.2.1, ⟨rw2, z3, z4⟩⟩
          · intro s hs
            simp (disch := omega) only [z2]; exact j5 s hs
          · intro s u1 hs
            simp (disch := omega) only [z2]; exact j6 s u1 hs
          · simp (disch := omega) only [z2]; exact j7
          · intro e u1 u2
            simp (disch := omega) only [z2]; exact j8 e u1 u2
        · rw [z2 _ _ (by omega) (by omega), y5 b y u1]; exact p1 b y u1
    | succ n ih =>
      intro i m f u a l hi hm hf1 hu hr hlim hch p1 p2
      obtain ⟨g, rfl⟩ : ∃ g, f = g + 1 := ⟨f - 1, by omega⟩
      unfold fX13_chain_h5
      rw [mloop_S]
      show wq (fX13_chain_i5 fu q (sL now) (fX13_chain_h5 fu q (sL now) g) (sI m) (sI i) a l) Q
      unfold fX13_chain_i5
      refine wq_b3 (m_selZ (v := 0) (by omega) hu hr (by omega)) ?_
      rintro r1 M1 L1 ⟨y1, y2, y3, y4, y6, y5⟩
      dsimp only at y1 y2 y3 y4 y5 y6
      subst y1 y2
      have e0 : chN va now (n + 1) u = if (tkZ 0 u).length = 0 then (true, seZ 0 u) else chN va now n (gZ va now 0 u) := rfl
      rw [e0] at hch
      have hlz := tkZ_len (v := 0) hu
      have e1 : M1 q 1 = sI (w.1.1 0 3) := by
        have : M1 q 1 = sI ((seZ 0 u).1.1 0 3) := y3.2.2.2.1.1
        rw [this]
        congr 1
      by_cases hz : (tkZ 0 u).length = 0
      · rw [if_pos (by rw [hz]; decide)]
        rw [if_pos hz] at hch
        rw [← hQ, ← hch]
        refine wq_some ⟨?_, y3, fun b y u1 => (y5 b y u1).trans (p1 b y u1), p2⟩
        dsimp only
        rw [if_pos rfl]
        exact ⟨m, by omega, rfl⟩
      · rw [if_neg (by rw [sI_lel (by omega) (by decide)]; omega), e1, if_neg (by rw [sI_eq (by omega) (by omega)]; omega)]
        rw [if_neg hz] at hch
        refine wq_b3 (m_stepZ (now := now) hf hu y3 y4 y6) ?_
        rintro r2 M2 L2 ⟨z1, z2, z3, z4⟩
        dsimp only at z1 z2 z3 z4
        subst z1
        simp only [mlet]
        rw [sI_1, sI_add]
        refine ih (i + 1) (m + (tkZ 0 u).length) g (gZ va now 0 u) M2 L2 (by omega) (by omega) (by omega) (In_g hu) z2 ?_ hch (fun b y u1 => ?_) (fun b u1 u2 => (z4 b u1 u2).trans (p2 b u1 u2))
        · rw [g_r (by omega) (by omega)]; exact hlim
        · rw [z3 _ _ u1, y5 _ _ u1]; exact p1 b y u1
  unfold DX13_chain
  exact key (w.1.1 0 3) 0 0 fu w M L (by omega) (by omega) (by omega) hw h rfl rfl (fun _ _ _ => rfl) (fun _ _ _ => rfl)
/-! who speaks next -/
def duC (c : Nat → Nat → Nat) (b : Nat → Nat → Bool) (t s : Nat) : Bool := decide (0 < c 12 s) && (b 0 s && (!b 1 s && decide (c 14 s + c 12 s ≤ t)))
def duN (c : Nat → Nat → Nat) (b : Nat → Nat → Bool) (t : Nat) : Nat → Nat
  | 0 => 0
  | i + 1 => if duC c b t (i + 1) = true ∧ (duN c b t i = 0 ∨ c 14 (i + 1) + c 12 (i + 1) < c 14 (duN c b t i) + c 12 (duN c b t i)) then i + 1 else duN c b t i
theorem du_le {c : Nat → Nat → Nat} {b : Nat → Nat → Bool} {t : Nat} : ∀ i, duN c b t i ≤ i ∧ (duN c b t i ≠ 0 → duC c b t (duN c b t i) = true) := by
  intro i
  induction i with
  | zero => exact ⟨Nat.le_refl _, fun h => absurd rfl h⟩
  | succ i ih =>
    have e : duN c b t (i + 1) = if duC c b t (i + 1) = true ∧ (duN c b t i = 0 ∨ c 14 (i + 1) + c 12 (i + 1) < c 14 (duN c b t i) + c 12 (duN c b t i)) then i + 1 else duN c b t i := rfl
    rw [e]
    split
    · rename_i h
      exact ⟨Nat.le_refl _, fun _ => h.1⟩
    · exact ⟨by omega, ih.2⟩
def S14 (c : Nat → Nat → Nat) : Prop := ∀ s, s ≤ c 0 0 → c 14 s ≤ 20000
theorem c_nextToSpeak {fu : Nat} {A : mwM} {L : mwL} {k t : Nat} {c : Nat → Nat → Nat} {b : Nat → Nat → Bool} {va : Nat → Int32} {D : Nat → Int64} {x : Nat → Int32} (hf : 202 ≤ fu) (hv : Cv c) (hS : S14 c) (h : ReC k A L c b va D x) (ht : t ≤ 20000) : DX2_nextToSpeak fu k (sI t) A L = some (sI (duN c b t (c 0 0)), A, L) := by
  have hN := hv.1.1
  have hk := hv.2.2.2.2.2.1
  unfold DX2_nextToSpeak
  simp only [mlet]
  rw [sI_1]
  have hh := wq_for (body := fun r z => fX2_nextToSpeak_i9 fu k (sI t) r z.1 z.2.1 z.2.2.1 z.2.2.2.1 z.2.2.2.2) (Q := fun z => z = (sI (duN c b t (c 0 0)), A, L)) (fun i (_ : Unit) => (sI (duN c b t (i - 1)), sI (if duN c b t (i - 1) = 0 then t + 1 else c 14 (duN c b t (i - 1)) + c 12 (duN c b t (i - 1))), sI i, A, L)) (fun i _ => 1 ≤ i) (c 0 0 + 1) ?_ ?_ (c 0 0) 1 () fu (by omega) (by omega) (Nat.le_refl _)
  · obtain ⟨z, hz, rfl⟩ := hh
    exact hz
  · intro i _ r hi hi1 ih
    obtain ⟨n, rfl⟩ : ∃ n, i = n + 1 := ⟨i - 1, by omega⟩
    have ih2 := ih () (by omega)
    simp only [show n + 1 + 1 - 1 = n + 1 from rfl] at ih2
    show wq (fX2_nextToSpeak_i9 fu k (sI t) r (sI (duN c b t n)) (sI (if duN c b t n = 0 then t + 1 else c 14 (duN c b t n) + c 12 (duN c b t n))) (sI (n + 1)) A L) _
    have e5 := (h.2.2.2.2.1 (n + 1) (by omega)).1
    obtain ⟨e7, e10, e11, _⟩ := h.2.2.2.2.2.1 (n + 1) (by omega) (by omega)
    have s1 := hS (n + 1) (by omega)
    have s2 := hk (n + 1) (by omega)
    have hdu := du_le (c := c) (b := b) (t := t) n
    have hdl : (if duN c b t n = 0 then t + 1 else c 14 (duN c b t n) + c 12 (duN c b t n)) ≤ 40001 := by
      split
      · omega
      · have := hS (duN c b t n) (by omega)
        have := hk (duN c b t n) (by omega)
        omega
    have eN : duN c b t (n + 1) = if duC c b t (n + 1) = true ∧ (duN c b t n = 0 ∨ c 14 (n + 1) + c 12 (n + 1) < c 14 (duN c b t n) + c 12 (duN c b t n)) then n + 1 else duN c b t n := rfl
    have no : ¬ (duC c b t (n + 1) = true ∧ (duN c b t n = 0 ∨ c 14 (n + 1) + c 12 (n + 1) < c 14 (duN c b t n) + c 12 (duN c b t n))) → wq (r (sI (duN c b t n), sI (if duN c b t n = 0 then t + 1 else c 14 (duN c b t n) + c 12 (duN c b t n)), sI (n + 1 + 1), A, L)) (fun z => z = (sI (duN c b t (c 0 0)), A, L)) := by
      intro hno
      rw [eN, if_neg hno] at ih2
      exact ih2
    unfold fX2_nextToSpeak_i9 fX2_nextToSpeak_b104
    simp (disch := omega) only [h.1.1, e5, e7, e10, e11, sI_add, mck_s, sI_nn, nn_s, sI_lt, sI_le, sI_eq, sI_ltl, sI_lel, sI_eql, sI_llt, sI_lle, sI_1, bI_0, bI_1, bI_n, mlet, mb3_s, mb2_s]
    rw [if_neg (by omega)]
    unfold duC at no eN
    by_cases h1 : c 12 (n + 1) ≤ 0
    · rw [if_pos h1]
      exact no (fun z => by rw [decide_eq_false (show ¬ 0 < c 12 (n + 1) by omega)] at z; cases z.1)
    rw [if_neg h1]
    rw [decide_eq_true (show 0 < c 12 (n + 1) by omega), Bool.true_and] at no eN
    cases h2 : b 0 (n + 1) with
    | false =>
      rw [if_neg (by decide)]
      exact no (fun z => by rw [h2] at z; cases z.1)
    | true =>
      rw [if_pos rfl]
      rw [h2, Bool.true_and] at no eN
      cases h3 : b 1 (n + 1) with
      | true =>
        rw [if_neg (by decide)]
        exact no (fun z => by rw [h3] at z; cases z.1)
      | false =>
        rw [if_pos rfl]
        rw [h3] at no eN
        by_cases h4 : (if duN c b t n = 0 then t + 1 else c 14 (duN c b t n) + c 12 (duN c b t n)) ≤ c 14 (n + 1) + c 12 (n + 1)
        · rw [if_pos h4]
          refine no ?_
          rintro ⟨z1, z2⟩
          simp only [Bool.not_false, Bool.true_and, decide_eq_true_eq] at z1
          by_cases hz : duN c b t n = 0
          · rw [if_pos hz] at h4; omega
          · rw [if_neg hz] at h4
            rcases z2 with w | w
            · exact hz w
            · omega
        · rw [if_neg h4]
          have yes : (!false && decide (c 14 (n + 1) + c 12 (n + 1) ≤ t)) = true ∧ (duN c b t n = 0 ∨ c 14 (n + 1) + c 12 (n + 1) < c 14 (duN c b t n) + c 12 (duN c b t n)) := by
            by_cases hz : duN c b t n = 0
            · rw [if_pos hz] at h4
              exact ⟨by rw [decide_eq_true (show c 14 (n + 1) + c 12 (n + 1) ≤ t by omega)]; rfl, Or.inl hz⟩
            · rw [if_neg hz] at h4
              have hc := hdu.2 hz
              unfold duC at hc
              simp only [Bool.and_eq_true, decide_eq_true_eq] at hc
              exact ⟨by rw [decide_eq_true (show c 14 (n + 1) + c 12 (n + 1) ≤ t by omega)]; rfl, Or.inr (by omega)⟩
          rw [if_pos yes] at eN
          rw [eN, if_neg (show ¬ n + 1 = 0 by omega)] at ih2
          exact ih2
  · intro _ r _
    show wq (fX2_nextToSpeak_i9 fu k (sI t) r (sI (duN c b t (c 0 0))) _ (sI (c 0 0 + 1)) A L) _
    unfold fX2_nextToSpeak_i9
    rw [h.1.1, if_pos (by rw [sI_lt (by omega) (by omega)]; omega)]
    exact wq_some rfl
theorem m_due {fu : Nat} {M : mwM} {L : mwL} {q t : Nat} {c : Nat → Nat → Nat} {b : Nat → Nat → Bool} {va : Nat → Int32} {D : Nat → Int64} {x : Nat → Int32} (hf : 202 ≤ fu) (hv : Cv c) (hS : S14 c) (h : ReM q M L c b va D x) (ht : t ≤ 20000) : DX13_due fu q (sL t) M L = some (sI (duN c b t (c 0 0)), M, L) := by
  have hN := hv.1.1
  have hk := hv.2.2.2.2.2.1
  unfold DX13_due
  have hh := wq_for (body := fun r z => fX13_due_i5 fu q (sL t) r z.1 z.2.1 z.2.2.1 z.2.2.2) (Q := fun z => z = (sI (duN c b t (c 0 0)), M, L)) (fun i (_ : Unit) => (sI (duN c b t (i - 1)), sI i, M, L)) (fun i _ => 1 ≤ i) (c 0 0 + 1) ?_ ?_ (c 0 0) 1 () fu (by omega) (by omega) (Nat.le_refl _)
  · obtain ⟨z, hz, rfl⟩ := hh
    exact hz
  · intro i _ r hi hi1 ih
    obtain ⟨n, rfl⟩ : ∃ n, i = n + 1 := ⟨i - 1, by omega⟩
    have ih2 := ih () (by omega)
    simp only [show n + 1 + 1 - 1 = n + 1 from rfl] at ih2
    show wq (fX13_due_i5 fu q (sL t) r (sI (duN c b t n)) (sI (n + 1)) M L) _
    have e5 := (h.2.2.2.2.1 (n + 1) (by omega)).1
    obtain ⟨e9, e6, e7, _⟩ := h.2.2.2.2.2.1 (n + 1) (by omega) (by omega)
    have s1 := hS (n + 1) (by omega)
    have s2 := hk (n + 1) (by omega)
    have hdu := du_le (c := c) (b := b) (t := t) n
    have eN : duN c b t (n + 1) = if duC c b t (n + 1) = true ∧ (duN c b t n = 0 ∨ c 14 (n + 1) + c 12 (n + 1) < c 14 (duN c b t n) + c 12 (duN c b t n)) then n + 1 else duN c b t n := rfl
    have b71 : ∀ g : Bool, duC c b t (n + 1) = g → wq (fX13_due_b71 fu q (sL t) r (sI (duN c b t n)) (sI (n + 1)) (bI g) M L) (fun z => z = (sI (duN c b t (c 0 0)), M, L)) := by
      intro g hg
      rw [hg] at eN
      unfold fX13_due_b71 fX13_due_b119 fX13_due_b114 fX13_due_b120
      cases g with
      | false =>
        rw [if_pos bI_f]
        rw [if_neg (fun z => by cases z.1)] at eN
        rw [eN] at ih2
        simp only [mlet]
        rw [sI_1]
        exact ih2
      | true =>
        rw [if_neg (by decide)]
        by_cases hz : duN c b t n = 0
        · rw [if_pos (by rw [hz]; rfl)]
          rw [if_pos ⟨rfl, Or.inl hz⟩] at eN
          rw [eN] at ih2
          simp only [mlet]
          rw [sI_1]
          exact ih2
        · rw [if_neg (by rw [sI_eql (by omega) (by decide)]; exact hz)]
          have f5 := (h.2.2.2.2.1 (duN c b t n) (by omega)).1
          obtain ⟨_, f6, _⟩ := h.2.2.2.2.2.1 (duN c b t n) (by omega) (by omega)
          have s3 := hS (duN c b t n) (by omega)
          have s4 := hk (duN c b t n) (by omega)
          simp (disch := omega) only [e5, e6, f5, f6, sL_add, mck_s, sI_nn, nn_s, sI_lt, sI_le, sI_eq, sI_ltl, sI_lel, sI_eql, sI_llt, sI_lle, sI_1, bI_0, bI_1, bI_n, mlet, mb3_s, mb2_s]
          by_cases hlt : c 14 (n + 1) + c 12 (n + 1) < c 14 (duN c b t n) + c 12 (duN c b t n)
          · rw [if_neg (fun z => by
              have := (lg_cmp_ge _ _).mp z
              rw [sL_le (by omega) (by omega)] at this
              omega)]
            rw [if_pos ⟨rfl, Or.inr hlt⟩] at eN
            rw [eN] at ih2
            exact ih2
          · rw [if_pos ((lg_cmp_ge _ _).mpr (by rw [sL_le (by omega) (by omega)]; omega))]
            rw [if_neg (fun z => by rcases z.2 with w | w; exact hz w; exact hlt w)] at eN
            rw [eN] at ih2
            exact ih2
    unfold fX13_due_i5 fX13_due_b70
    simp (disch := omega) only [h.1.1, e5, e9, e6, e7, sL_add, mck_s, sI_nn, nn_s, sI_lt, sI_le, sI_eq, sI_ltl, sI_lel, sI_eql, sI_llt, sI_lle, sI_1, bI_0, bI_1, bI_n, mlet, mb3_s, mb2_s]
    rw [if_neg (by omega)]
    unfold duC at b71
    cases h2 : b 0 (n + 1) with
    | false =>
      rw [if_pos rfl]
      exact b71 false (by rw [h2]; simp)
    | true =>
      rw [if_neg (by decide)]
      by_cases h1 : c 12 (n + 1) ≤ 0
      · rw [if_pos ((lg_cmp_le _ _).mpr (by rw [show (0 : Int64) = sL 0 from rfl, sL_le (by omega) (by omega)]; omega))]
        exact b71 false (by rw [decide_eq_false (show ¬ 0 < c 12 (n + 1) by omega)]; rfl)
      · rw [if_neg (fun z => by
          have := (lg_cmp_le _ _).mp z
          rw [show (0 : Int64) = sL 0 from rfl, sL_le (by omega) (by omega)] at this
          omega)]
        cases h3 : b 1 (n + 1) with
        | true =>
          rw [if_neg (by decide)]
          exact b71 false (by rw [h3]; simp)
        | false =>
          rw [if_pos rfl]
          by_cases h4 : c 14 (n + 1) + c 12 (n + 1) ≤ t
          · rw [if_neg (fun z => by
              have := (lg_cmp_gt _ _).mp z
              rw [sL_lt (by omega) (by omega)] at this
              omega)]
            exact b71 true (by rw [h2, h3, decide_eq_true h4, decide_eq_true (show 0 < c 12 (n + 1) by omega)]; rfl)
          · rw [if_pos ((lg_cmp_gt _ _).mpr (by rw [sL_lt (by omega) (by omega)]; omega))]
            exact b71 false (by rw [decide_eq_false h4]; simp)
  · intro _ r _
    show wq (fX13_due_i5 fu q (sL t) r (sI (duN c b t (c 0 0))) (sI (c 0 0 + 1)) M L) _
    unfold fX13_due_i5
    rw [h.1.1, if_pos (by rw [sI_lt (by omega) (by omega)]; omega)]
    exact wq_some rfl
