/-! acts: what is done at entry, at exit, on an edge -/
def Ax (n : Nat) (ax : Nat → Nat → Nat) : Prop := n ≤ 600 ∧ ∀ i, i < n → ax 0 i ≤ 400 ∧ ax 1 i ≤ 2 ∧ ax 2 i < 32 ∧ ax 3 i ≤ 1
def AxC (A : mwM) (k n : Nat) (ax : Nat → Nat → Nat) (va : Nat → Int32) : Prop := A k 9 = sI n ∧ ∀ i, i < n → A (k + 29) i = sI (ax 0 i) ∧ A (k + 30) i = sI (ax 1 i) ∧ A (k + 31) i = sI (ax 2 i) ∧ A (k + 32) i = va i ∧ A (k + 33) i = sI (ax 3 i)
def AxM (M : mwM) (L : mwL) (q n : Nat) (ax : Nat → Nat → Nat) (va : Nat → Int32) : Prop := M q 20 = sI n ∧ ∀ i, i < n → M (q + 17) i = sI (ax 0 i) ∧ M (q + 18) i = sI (ax 1 i + 3 * ax 3 i) ∧ M (q + 19) i = sI (ax 2 i) ∧ L (q + 20) i = (va i).toInt64
def dS (ax : Nat → Nat → Nat) (va : Nat → Int32) (w o : Nat) (D : Nat → Int64) (i : Nat) : Nat → Int64 := if ax 1 i = w ∧ ax 0 i = o then fun j => if j = ax 2 i then (if ax 3 i = 1 then D (ax 2 i) else 0) + (va i).toInt64 else D j else D
def dA (ax : Nat → Nat → Nat) (va : Nat → Int32) (w o : Nat) (D : Nat → Int64) : Nat → Nat → Int64
  | 0 => D
  | i + 1 => dS ax va w o (dA ax va w o D i) i
theorem c_doActs {fu k n w o : Nat} {A : mwM} {L : mwL} {ax : Nat → Nat → Nat} {va : Nat → Int32} (hf : 601 ≤ fu) (hX : Ax n ax) (hC : AxC A k n ax va) (hw : w ≤ 2) (ho : o ≤ 400) : wq (DX2_doActs fu k (sI w) (sI o) A L) (fun z => z.1 = A ∧ z.2 (k + 34) = dA ax va w o (L (k + 34)) n ∧ ∀ b, b ≠ k + 34 → z.2 b = L b) := by
  have hn := hX.1
  unfold DX2_doActs
  refine wq_for (body := fun r s => fX2_doActs_i2 fu k (sI w) (sI o) r s.1 s.2.1 s.2.2) (fun i (l : mwL) => (sI i, A, l)) (fun i l => l (k + 34) = dA ax va w o (L (k + 34)) i ∧ ∀ b, b ≠ k + 34 → l b = L b) n ?_ ?_ n 0 L fu (by omega) (by omega) ⟨rfl, fun _ _ => rfl⟩
  · intro i l r hi ⟨p1, p2⟩ ih
    show wq (fX2_doActs_i2 fu k (sI w) (sI o) r (sI i) A l) _
    obtain ⟨x0, x1, x2, x3⟩ := hX.2 i hi
    obtain ⟨e0, e1, e2, e3, e4⟩ := hC.2 i hi
    simp (disch := omega) only [fX2_doActs_b84, fX2_doActs_b73, fX2_doActs_i2, hC.1, e0, e1, e2, e3, e4, mck_s, sI_nn, nn_s, sI_lt, sI_le, sI_eq, sI_ltl, sI_lel, sI_eql, sI_llt, sI_lle, sI_1, bI_0, bI_1, bI_n, mlet, mb3_s, mb2_s]
    rw [if_neg (by omega)]
    have go : ∀ l2 : mwL, l2 (k + 34) = dS ax va w o (l (k + 34)) i → (∀ b, b ≠ k + 34 → l2 b = l b) → wq (r (sI (i + 1), A, l2)) (fun z => z.1 = A ∧ z.2 (k + 34) = dA ax va w o (L (k + 34)) n ∧ ∀ b, b ≠ k + 34 → z.2 b = L b) := by
      intro l2 h1 h2
      refine ih _ ⟨?_, fun b hb => (h2 b hb).trans (p2 b hb)⟩
      rw [h1, p1]
      rfl
    by_cases c1 : ax 1 i = w
    · rw [if_pos c1]
      by_cases c2 : ax 0 i = o
      · rw [if_pos c2]
        by_cases c3 : ax 3 i = 1
        · rw [if_pos c3]
          refine go _ ?_ (fun b hb => mset_rown hb)
          rw [mset_row]
          unfold dS
          rw [if_pos ⟨c1, c2⟩, if_pos c3]
        · rw [if_neg c3]
          refine go _ ?_ (fun b hb => mset_rown hb)
          rw [mset_row]
          unfold dS
          rw [if_pos ⟨c1, c2⟩, if_neg c3]
      · rw [if_neg c2]
        refine go _ ?_ (fun _ _ => rfl)
        unfold dS
        rw [if_neg (fun z => c2 z.2)]
    · rw [if_neg c1]
      refine go _ ?_ (fun _ _ => rfl)
      unfold dS
      rw [if_neg (fun z => c1 z.1)]
  · intro l r ⟨p1, p2⟩
    show wq (fX2_doActs_i2 fu k (sI w) (sI o) r (sI n) A l) _
    unfold fX2_doActs_i2
    simp (disch := omega) only [hC.1, mck_s, sI_nn, nn_s, sI_lt, sI_le, sI_eq, sI_ltl, sI_lel, sI_eql, sI_llt, sI_lle, sI_1, bI_0, bI_1, bI_n, mlet, mb3_s, mb2_s]
    rw [if_pos (by omega)]
    exact wq_some ⟨rfl, p1, p2⟩
theorem m_doActs {fu q n w o rw' : Nat} {M : mwM} {L : mwL} {ax : Nat → Nat → Nat} {va : Nat → Int32} (hf : 601 ≤ fu) (hX : Ax n ax) (hM : AxM M L q n ax va) (hw : w ≤ 2) (ho : o ≤ 400) (hr : M q 31 = sI rw') (hr2 : rw' ≤ 500) : wq (DX13_doActs fu q (sI o) (sI w) M L) (fun z => z.2 (q + 21) = dA ax va w o (L (q + 21)) n ∧ (∀ b, b ≠ q + 21 → z.2 b = L b) ∧ (∃ r2, r2 ≤ 500 ∧ z.1 q 31 = sI r2) ∧ ∀ b y, ¬ (b = q ∧ y = 31) → b ≠ q + 22 → z.1 b y = M b y) := by
  have hn := hX.1
  unfold DX13_doActs
  refine wq_for (body := fun r s => fX13_doActs_i2 fu q (sI o) (sI w) r s.1 s.2.1 s.2.2) (fun i (l : mwM × mwL) => (sI i, l.1, l.2)) (fun i l => l.2 (q + 21) = dA ax va w o (L (q + 21)) i ∧ (∀ b, b ≠ q + 21 → l.2 b = L b) ∧ (∃ r2, r2 ≤ 500 ∧ l.1 q 31 = sI r2) ∧ ∀ b y, ¬ (b = q ∧ y = 31) → b ≠ q + 22 → l.1 b y = M b y) n ?_ ?_ n 0 (M, L) fu (by omega) (by omega) ⟨rfl, fun _ _ => rfl, ⟨rw', hr2, hr⟩, fun _ _ _ _ => rfl⟩
  · rintro i ⟨a, l⟩ r hi ⟨p1, p2, ⟨r2, p3, p4⟩, p5⟩ ih
    show wq (fX13_doActs_i2 fu q (sI o) (sI w) r (sI i) a l) _
    dsimp only at p1 p2 p4 p5
    obtain ⟨x0, x1, x2, x3⟩ := hX.2 i hi
    obtain ⟨e0, e1, e2, e3⟩ := hM.2 i hi
    have f0 : a q 20 = sI n := (p5 q 20 (by omega) (by omega)).trans hM.1
    rw [← p5 (q + 17) i (by omega) (by omega)] at e0
    rw [← p5 (q + 18) i (by omega) (by omega)] at e1
    rw [← p5 (q + 19) i (by omega) (by omega)] at e2
    rw [← p2 (q + 20) (by omega)] at e3
    have m3 : sI (ax 1 i + 3 * ax 3 i) - sI (ax 1 i + 3 * ax 3 i) / 3 * 3 = sI (ax 1 i) := by
      rw [show sI (ax 1 i + 3 * ax 3 i) - sI (ax 1 i + 3 * ax 3 i) / 3 * 3 = sI ((ax 1 i + 3 * ax 3 i) % 3) from sI_mod (b := 3) (by omega) (by omega)]
      congr 1
      omega
    have go : ∀ l2 : mwL, l2 (q + 21) = dS ax va w o (l (q + 21)) i → (∀ b, b ≠ q + 21 → l2 b = l b) → wq (fX13_doActs_b102 fu q (sI o) (sI w) r (sI i) a l2) (fun z => z.2 (q + 21) = dA ax va w o (L (q + 21)) n ∧ (∀ b, b ≠ q + 21 → z.2 b = L b) ∧ (∃ r2, r2 ≤ 500 ∧ z.1 q 31 = sI r2) ∧ ∀ b y, ¬ (b = q ∧ y = 31) → b ≠ q + 22 → z.1 b y = M b y) ∧ wq (mb2 (DX13_note fu q 2 (sI (ax 2 i)) (l2 (q + 21) (ax 2 i)) a l2) (fun M19 L20 => r (sI (i + 1), M19, L20))) (fun z => z.2 (q + 21) = dA ax va w o (L (q + 21)) n ∧ (∀ b, b ≠ q + 21 → z.2 b = L b) ∧ (∃ r2, r2 ≤ 500 ∧ z.1 q 31 = sI r2) ∧ ∀ b y, ¬ (b = q ∧ y = 31) → b ≠ q + 22 → z.1 b y = M b y) := by
      intro l2 h1 h2
      have h3 : l2 (q + 21) = dA ax va w o (L (q + 21)) (i + 1) := by
        rw [h1, p1]
        rfl
      refine ⟨?_, ?_⟩
      · unfold fX13_doActs_b102
        simp only [mlet]
        rw [sI_1]
        exact ih (a, l2) ⟨h3, fun b hb => (h2 b hb).trans (p2 b hb), ⟨r2, p3, p4⟩, p5⟩
      · refine wq_b2 (m_note (rw' := r2) p4 p3) ?_
        rintro M1 L1 ⟨y1, y2, y3⟩
        dsimp only at y1 y2 y3
        subst y1
        exact ih (M1, L1) ⟨h3, fun b hb => (h2 b hb).trans (p2 b hb), y2, fun b y u1 u2 => (y3 b y u1 u2).trans (p5 b y u1 u2)⟩
    unfold fX13_doActs_i2 fX13_doActs_b79
    simp (disch := omega) only [f0, e0, e1, e2, e3, m3, mck_s, sI_nn, nn_s, sI_lt, sI_le, sI_eq, sI_ltl, sI_lel, sI_eql, sI_llt, sI_lle, sI_1, bI_0, bI_1, bI_n, mlet, mb3_s, mb2_s]
    rw [if_neg (by omega)]
    by_cases c2 : ax 0 i = o
    · rw [if_pos c2]
      by_cases c1 : ax 1 i = w
      · rw [if_pos c1]
        by_cases c3 : ax 3 i = 1
        · rw [if_neg (by omega)]
          unfold fX13_doActs_b102
          simp (disch := omega) only [mck_s, sI_nn, nn_s, sI_lt, sI_le, sI_eq, sI_ltl, sI_lel, sI_eql, sI_llt, sI_lle, sI_1, bI_0, bI_1, bI_n, mlet, mb3_s, mb2_s]
          refine (go _ ?_ (fun b hb => mset_rown hb)).2
          rw [mset_row]
          unfold dS
          rw [if_pos ⟨c1, c2⟩, if_pos c3]
        · rw [if_pos (by omega)]
          unfold fX13_doActs_b102
          simp (disch := omega) only [mck_s, sI_nn, nn_s, sI_lt, sI_le, sI_eq, sI_ltl, sI_lel, sI_eql, sI_llt, sI_lle, sI_1, bI_0, bI_1, bI_n, mlet, mb3_s, mb2_s]
          refine (go _ ?_ (fun b hb => mset_rown hb)).2
          rw [mset_row]
          unfold dS
          rw [if_pos ⟨c1, c2⟩, if_neg c3, Int64.zero_add]
      · rw [if_neg c1]
        refine (go _ ?_ (fun _ _ => rfl)).1
        unfold dS
        rw [if_neg (fun z => c1 z.1)]
    · rw [if_neg c2]
      refine (go _ ?_ (fun _ _ => rfl)).1
      unfold dS
      rw [if_neg (fun z => c2 z.2)]
  · rintro ⟨a, l⟩ r ⟨p1, p2, p3, p5⟩
    show wq (fX13_doActs_i2 fu q (sI o) (sI w) r (sI n) a l) _
    dsimp only at p1 p2 p3 p5
    have f0 : a q 20 = sI n := (p5 q 20 (by omega) (by omega)).trans hM.1
    unfold fX13_doActs_i2
    simp (disch := omega) only [f0, mck_s, sI_nn, nn_s, sI_lt, sI_le, sI_eq, sI_ltl, sI_lel, sI_eql, sI_llt, sI_lle, sI_1, bI_0, bI_1, bI_n, mlet, mb3_s, mb2_s]
    rw [if_pos (by omega)]
    exact wq_some ⟨p1, p2, p3, p5⟩
