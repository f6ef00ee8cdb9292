/-! acts, data, ticks -/
theorem chK_c {c c' : Nat → Nat → Nat} {b : Nat → Nat → Bool} {s : Nat} (h0 : c' 0 0 = c 0 0) (h1 : c' 1 = c 1) (h2 : c' 2 = c 2) : chK c' b s = chK c b s := by
  unfold chK
  rw [h0, h1, h2]
theorem ReC_x {k : Nat} {A A' : mwM} {L : mwL} {c c' : Nat → Nat → Nat} {b : Nat → Nat → Bool} {va va' : Nat → Int32} {D : Nat → Int64} {x : Nat → Int32} (h : ReC k A L c b va D x) (hA : ∀ a y, ¬ (a = k ∧ y = 9) → ¬ (k + 29 ≤ a ∧ a ≤ k + 33) → A' a y = A a y) (hc0 : ∀ j, j ≠ 2 → c' 0 j = c 0 j) (hc : ∀ i, 1 ≤ i → i ≤ 7 ∨ 12 ≤ i → c' i = c i) (hX : AxC A' k (c' 0 2) (fun i => c' (8 + i)) va') : ReC k A' L c' b va' D x := by
  have hK : ∀ s, chK c' b s = chK c b s := fun s => chK_c (hc0 0 (by omega)) (hc 1 (by omega) (by omega)) (hc 2 (by omega) (by omega))
  obtain ⟨h1, h2, h3, h4, h5, h6, h7, h8⟩ := h
  unfold ReC ReC'
  rw [hc0 0 (by omega), hc0 1 (by omega), hc0 3 (by omega), hc0 4 (by omega), hc 1 (by omega) (by omega), hc 2 (by omega) (by omega), hc 3 (by omega) (by omega), hc 4 (by omega) (by omega), hc 5 (by omega) (by omega), hc 6 (by omega) (by omega), hc 7 (by omega) (by omega), hc 12 (by omega) (by omega), hc 13 (by omega) (by omega), hc 14 (by omega) (by omega)]
  refine ⟨?_, ?_, hX, ?_, ?_, ?_, ?_, ?_⟩
  · refine ⟨?_, fun s hs => ?_⟩
    · simp (disch := omega) only [hA]; exact h1.1
    · simp (disch := omega) only [hA]; exact h1.2 s hs
  · refine ⟨?_, fun e u1 u2 => ?_⟩
    · simp (disch := omega) only [hA]; exact h2.1
    · simp (disch := omega) only [hA]; exact h2.2 e u1 u2
  · simp (disch := omega) only [hA]; exact h4
  · intro s hs
    rw [hK]
    simp (disch := omega) only [hA]; exact h5 s hs
  · intro s u1 hs
    simp (disch := omega) only [hA]; exact h6 s u1 hs
  · refine ⟨fun i v hv => ?_, fun i v hv => ?_⟩
    · simp (disch := omega) only [hA]; exact h7.1 i v hv
    · simp (disch := omega) only [hA]; exact h7.2 i v hv
  · intro e u1 u2
    simp (disch := omega) only [hA]; exact h8 e u1 u2
theorem ReM_x {q : Nat} {M M' : mwM} {L L' : mwL} {c c' : Nat → Nat → Nat} {b : Nat → Nat → Bool} {va va' : Nat → Int32} {D : Nat → Int64} {x : Nat → Int32} (h : ReM q M L c b va D x) (hM : ∀ a y, ¬ (a = q ∧ (y = 20 ∨ y = 0)) → ¬ (q + 17 ≤ a ∧ a ≤ q + 19) → M' a y = M a y) (hL : ∀ a, a ≠ q + 20 → L' a = L a) (hc0 : ∀ j, j ≠ 2 → c' 0 j = c 0 j) (hc : ∀ i, 1 ≤ i → i ≤ 7 ∨ 12 ≤ i → c' i = c i) (hX : AxM M' L' q (c' 0 2) (fun i => c' (8 + i)) va') : ReM q M' L' c' b va' D x := by
  obtain ⟨h1, h2, h3, h4, h5, h6, h7, h8⟩ := h
  unfold ReM
  rw [hc0 0 (by omega), hc0 1 (by omega), hc0 3 (by omega), hc0 4 (by omega), hc 1 (by omega) (by omega), hc 2 (by omega) (by omega), hc 3 (by omega) (by omega), hc 4 (by omega) (by omega), hc 5 (by omega) (by omega), hc 6 (by omega) (by omega), hc 7 (by omega) (by omega), hc 12 (by omega) (by omega), hc 13 (by omega) (by omega), hc 14 (by omega) (by omega)]
  refine ⟨?_, ?_, hX, ?_, ?_, ?_, ?_, ?_⟩
  · refine ⟨?_, fun s hs => ?_⟩
    · simp (disch := omega) only [hM]; exact h1.1
    · simp (disch := omega) only [hM]; exact h1.2 s hs
  · refine ⟨?_, fun e u1 u2 => ?_⟩
    · simp (disch := omega) only [hM]; exact h2.1
    · simp (disch := omega) only [hM]; exact h2.2 e u1 u2
  · simp (disch := omega) only [hM, hL]; exact h4
  · intro s hs
    simp (disch := omega) only [hM, hL]; exact h5 s hs
  · intro s u1 hs
    simp (disch := omega) only [hM, hL]; exact h6 s u1 hs
  · simp (disch := omega) only [hM]; exact h7
  · intro e u1 u2
    simp (disch := omega) only [hM]; exact h8 e u1 u2
def cax (c : Nat → Nat → Nat) (o w m a : Nat) : Nat → Nat → Nat := fun i j => if i = 0 ∧ j = 2 then c 0 2 + 1 else if i = 8 ∧ j = c 0 2 then o else if i = 9 ∧ j = c 0 2 then w else if i = 10 ∧ j = c 0 2 then m else if i = 11 ∧ j = c 0 2 then a else c i j
def vax (va : Nat → Int32) (n : Nat) (v : Int32) : Nat → Int32 := fun j => if j = n then v else va j
section CAX
variable {c : Nat → Nat → Nat} {o w m a : Nat}
theorem cax_n : cax c o w m a 0 2 = c 0 2 + 1 := by simp [cax]
theorem cax_0 {j : Nat} (h : j ≠ 2) : cax c o w m a 0 j = c 0 j := by simp [cax, h]
theorem cax_r {i : Nat} (h : 1 ≤ i) (h0 : i ≤ 7 ∨ 12 ≤ i) : cax c o w m a i = c i := by
  funext j
  unfold cax
  rw [if_neg (by omega), if_neg (by omega), if_neg (by omega), if_neg (by omega), if_neg (by omega)]
theorem cax_s {i j : Nat} (h : 1 ≤ i) (h0 : j ≠ c 0 2) : cax c o w m a i j = c i j := by
  unfold cax
  rw [if_neg (by omega), if_neg (by omega), if_neg (by omega), if_neg (by omega), if_neg (by omega)]
theorem cax_8 : cax c o w m a 8 (c 0 2) = o := by simp [cax]
theorem cax_9 : cax c o w m a 9 (c 0 2) = w := by simp [cax]
theorem cax_10 : cax c o w m a 10 (c 0 2) = m := by simp [cax]
theorem cax_11 : cax c o w m a 11 (c 0 2) = a := by simp [cax]
theorem Cv_ax (h : Cv c) (ho : o ≤ 400) (ho2 : w = 2 ∨ o ≤ 200) (hw : w ≤ 2) (hm : m < 32) (ha : a ≤ 1) (hn : ¬ 600 ≤ c 0 2) : Cv (cax c o w m a) := by
  obtain ⟨hT, hEd, hX, hl, hd, hk, hA⟩ := h
  unfold Cv
  rw [cax_0 (j := 0) (by omega), cax_0 (j := 1) (by omega), cax_0 (j := 3) (by omega), cax_0 (j := 4) (by omega), cax_r (i := 1) (by omega) (by omega), cax_r (i := 2) (by omega) (by omega), cax_r (i := 3) (by omega) (by omega), cax_r (i := 4) (by omega) (by omega), cax_r (i := 5) (by omega) (by omega), cax_r (i := 6) (by omega) (by omega), cax_r (i := 7) (by omega) (by omega), cax_r (i := 12) (by omega) (by omega)]
  refine ⟨hT, hEd, ?_, hl, hd, hk, ?_⟩
  · rw [cax_n]
    refine ⟨by omega, fun i hi => ?_⟩
    show cax c o w m a 8 i ≤ 400 ∧ cax c o w m a 9 i ≤ 2 ∧ cax c o w m a 10 i < 32 ∧ cax c o w m a 11 i ≤ 1
    by_cases hq : i = c 0 2
    · subst hq
      rw [cax_8, cax_9, cax_10, cax_11]
      exact ⟨ho, hw, hm, ha⟩
    · rw [cax_s (by omega) hq, cax_s (by omega) hq, cax_s (by omega) hq, cax_s (by omega) hq]
      exact hX.2 i (by omega)
  · rw [cax_n]
    intro i hi
    by_cases hq : i = c 0 2
    · subst hq
      rw [cax_8, cax_9]
      exact ho2
    · rw [cax_s (by omega) hq, cax_s (by omega) hq]
      exact hA i (by omega)
theorem c_addAct {fu : Nat} {A : mwM} {L : mwL} {k : Nat} {va : Nat → Int32} {D : Nat → Int64} {x : Nat → Int32} {v : Int32} {ad : Bool} (hv : Cv c) (h : ReC k A L c b00 va D x) (ho : o ≤ 400) (ho2 : w ≠ 2 → o ≤ c 0 0) (hw : w ≤ 2) (hm : m < 32) : wq (DX2_addAct fu k (sI o) (sI w) (sI m) v (bI ad) A L) (fun z => if o = 0 then z = (-1, A, L) else if w ≠ 2 ∧ 2 ≤ c 2 o then z = (-2, A, L) else if 600 ≤ c 0 2 then z = (-4, A, L) else z.1 = sI (c 0 2 + 1) ∧ z.2.2 = L ∧ ReC k z.2.1 L (cax c o w m (if ad = true then 1 else 0)) b00 (vax va (c 0 2) v) D x ∧ ∀ b y, ¬ (k + 29 ≤ b ∧ b ≤ k + 33) → ¬ (b = k ∧ y = 9) → z.2.1 b y = A b y) := by
  have hn := hv.2.2.1.1
  have e9 := h.2.2.1.1
  have main : (w ≠ 2 ∧ 2 ≤ c 2 o → False) → o ≠ 0 → wq (fX2_addAct_b22 fu k (sI o) (sI w) (sI m) v (bI ad) A L) (fun z => if o = 0 then z = (-1, A, L) else if w ≠ 2 ∧ 2 ≤ c 2 o then z = (-2, A, L) else if 600 ≤ c 0 2 then z = (-4, A, L) else z.1 = sI (c 0 2 + 1) ∧ z.2.2 = L ∧ ReC k z.2.1 L (cax c o w m (if ad = true then 1 else 0)) b00 (vax va (c 0 2) v) D x ∧ ∀ b y, ¬ (k + 29 ≤ b ∧ b ≤ k + 33) → ¬ (b = k ∧ y = 9) → z.2.1 b y = A b y) := by
    intro hm0 ho0
    unfold fX2_addAct_b22 fX2_addAct_b104
    simp (disch := omega) only [e9, mset_n, mset_s, mck_s, sI_nn, nn_s, sI_lt, sI_le, sI_eq, sI_ltl, sI_lel, sI_eql, sI_llt, sI_lle, sI_1, bI_0, bI_1, bI_n, mlet, mb3_s, mb2_s]
    by_cases h6 : 600 ≤ c 0 2
    · rw [if_neg (by omega)]
      exact wq_some (by rw [if_neg ho0, if_neg hm0, if_pos h6])
    rw [if_pos (by omega)]
    have fin : ∀ u : Int32, u = sI (if ad = true then 1 else 0) → ∀ A' : mwM, (∀ b y, ¬ (k + 29 ≤ b ∧ b ≤ k + 33 ∧ y = c 0 2) → ¬ (b = k ∧ y = 9) → A' b y = A b y) → A' k 9 = sI (c 0 2 + 1) → A' (k + 29) (c 0 2) = sI o → A' (k + 30) (c 0 2) = sI w → A' (k + 31) (c 0 2) = sI m → A' (k + 32) (c 0 2) = v → A' (k + 33) (c 0 2) = u → (sI (c 0 2 + 1) = sI (c 0 2 + 1) ∧ L = L ∧ ReC k A' L (cax c o w m (if ad = true then 1 else 0)) b00 (vax va (c 0 2) v) D x ∧ ∀ b y, ¬ (k + 29 ≤ b ∧ b ≤ k + 33) → ¬ (b = k ∧ y = 9) → A' b y = A b y) := by
      intro u hu A' g1 g2 g3 g4 g5 g6 g7
      refine ⟨rfl, rfl, ?_, fun b y u1 u2 => g1 b y (by omega) u2⟩
      refine ReC_x h (fun b y u1 u2 => g1 b y (by omega) u1) (fun j hj => cax_0 hj) (fun i u1 u2 => cax_r u1 u2) ?_
      rw [cax_n]
      refine ⟨g2, fun i hi => ?_⟩
      show A' (k + 29) i = sI (cax c o w m (if ad = true then 1 else 0) 8 i) ∧ A' (k + 30) i = sI (cax c o w m (if ad = true then 1 else 0) 9 i) ∧ A' (k + 31) i = sI (cax c o w m (if ad = true then 1 else 0) 10 i) ∧ A' (k + 32) i = vax va (c 0 2) v i ∧ A' (k + 33) i = sI (cax c o w m (if ad = true then 1 else 0) 11 i)
      unfold vax
      by_cases hq : i = c 0 2
      · subst hq
        rw [cax_8, cax_9, cax_10, cax_11, if_pos rfl]
        exact ⟨g3, g4, g5, g6, g7.trans hu⟩
      · rw [cax_s (by omega) hq, cax_s (by omega) hq, cax_s (by omega) hq, cax_s (by omega) hq, if_neg hq]
        simp (disch := omega) only [g1]
        exact h.2.2.1.2 i (by omega)
    cases ad with
    | false =>
      rw [if_pos rfl]
      refine wq_some ?_
      rw [if_neg ho0, if_neg hm0, if_neg h6]
      refine fin (sI 0) rfl _ ?_ ?_ ?_ ?_ ?_ ?_ ?_
      · intro b y u1 u2
        simp (disch := omega) only [mset_n]
      all_goals simp (disch := omega) only [mset_n, mset_s]
      rfl
    | true =>
      rw [if_neg (by decide)]
      refine wq_some ?_
      rw [if_neg ho0, if_neg hm0, if_neg h6]
      refine fin (sI 1) rfl _ ?_ ?_ ?_ ?_ ?_ ?_ ?_
      · intro b y u1 u2
        simp (disch := omega) only [mset_n]
      all_goals simp (disch := omega) only [mset_n, mset_s]
      rfl
  unfold DX2_addAct
  simp (disch := omega) only [mck_s, sI_nn, nn_s, sI_lt, sI_le, sI_eq, sI_ltl, sI_lel, sI_eql, sI_llt, sI_lle, sI_1, bI_0, bI_1, bI_n, mlet, mb3_s, mb2_s]
  by_cases ho0 : o = 0
  · rw [if_pos ho0]
    exact wq_some (by rw [if_pos ho0])
  rw [if_neg ho0]
  by_cases hw2 : w = 2
  · rw [if_pos hw2]
    exact main (fun z => z.1 hw2) ho0
  rw [if_neg hw2, c_isMark hv.1 h.1 (ho2 hw2)]
  simp (disch := omega) only [mck_s, sI_nn, nn_s, sI_lt, sI_le, sI_eq, sI_ltl, sI_lel, sI_eql, sI_llt, sI_lle, sI_1, bI_0, bI_1, bI_n, mlet, mb3_s, mb2_s]
  by_cases hk : 2 ≤ c 2 o
  · rw [if_neg (by simp [hk])]
    exact wq_some (by rw [if_neg ho0, if_pos ⟨hw2, hk⟩])
  · rw [if_pos (by simp [hk])]
    exact main (fun z => hk z.2) ho0
theorem m_act {fu : Nat} {M : mwM} {L : mwL} {q : Nat} {va : Nat → Int32} {D : Nat → Int64} {x : Nat → Int32} {v : Int32} {ad : Bool} (hv : Cv c) (h : ReM q M L c b00 va D x) (hcl : ClM q M L c) (ho : o ≤ 400) (ho2 : w ≠ 2 → o ≤ c 0 0) (ho3 : w = 2 → o ≤ c 0 1) (hw : w ≤ 2) (hm : m < 32) : wq (DX13_act fu q (sI o) (sI (w + 3 * (if ad = true then 1 else 0))) (sI m) v.toInt64 M L) (fun z => (∀ b, b ≠ q + 20 → z.2.2 b = L b) ∧ (∀ b y, ¬ (q ≤ b ∧ b ≤ q + 19) → z.2.1 b y = M b y) ∧ if o = 0 then z.1 = -1 ∧ ReM q z.2.1 z.2.2 c b00 va D x ∧ ClM q z.2.1 z.2.2 c else if w ≠ 2 ∧ 2 ≤ c 2 o then z.1 = -2 ∧ ReM q z.2.1 z.2.2 c b00 va D x ∧ ClM q z.2.1 z.2.2 c else if 600 ≤ c 0 2 then z.1 = -4 ∧ ReM q z.2.1 z.2.2 c b00 va D x ∧ ClM q z.2.1 z.2.2 c else z.1 = sI (c 0 2 + 1) ∧ ReM q z.2.1 z.2.2 (cax c o w m (if ad = true then 1 else 0)) b00 (vax va (c 0 2) v) D x ∧ ClM q z.2.1 z.2.2 (cax c o w m (if ad = true then 1 else 0))) := by
  have hT := hv.1
  have hN := hT.1
  have hE4 := hv.2.1.1
  have hn := hv.2.2.1.1
  have h0 : ReM q (mset M q 0 0) L c b00 va D x := ReM_f h (fun a y _ _ u => mset_n (by omega)) (fun _ _ _ => rfl)
  have hcl0 : ClM q (mset M q 0 0) L c := ClM_f hcl (fun a y _ _ u => mset_n (by omega)) (fun _ _ _ => rfl)
  have fr : ∀ b y, ¬ (q ≤ b ∧ b ≤ q + 19) → mset M q 0 0 b y = M b y := fun a y u => mset_n (by omega)
  have e2 : M q 2 = sI (c 0 0) := h.1.1
  have e12 : M q 12 = sI (c 0 1) := h.2.1.1
  have e20 : M q 20 = sI (c 0 2) := h.2.2.1.1
  have e27 : M q 27 = bI false := h.2.2.2.1.2.2.2.2.1
  obtain ⟨a, ha⟩ : ∃ a, a = (if ad = true then 1 else 0 : Nat) := ⟨_, rfl⟩
  have ha1 : a ≤ 1 := by rw [ha]; split <;> omega
  rw [← ha]
  have main : (w ≠ 2 ∧ 2 ≤ c 2 o → False) → o ≠ 0 → wq (fX13_act_b84 fu q (sI o) (sI (w + 3 * a)) (sI m) v.toInt64 (mset M q 0 0) L) (fun z => (∀ b, b ≠ q + 20 → z.2.2 b = L b) ∧ (∀ b y, ¬ (q ≤ b ∧ b ≤ q + 19) → z.2.1 b y = M b y) ∧ if o = 0 then z.1 = -1 ∧ ReM q z.2.1 z.2.2 c b00 va D x ∧ ClM q z.2.1 z.2.2 c else if w ≠ 2 ∧ 2 ≤ c 2 o then z.1 = -2 ∧ ReM q z.2.1 z.2.2 c b00 va D x ∧ ClM q z.2.1 z.2.2 c else if 600 ≤ c 0 2 then z.1 = -4 ∧ ReM q z.2.1 z.2.2 c b00 va D x ∧ ClM q z.2.1 z.2.2 c else z.1 = sI (c 0 2 + 1) ∧ ReM q z.2.1 z.2.2 (cax c o w m a) b00 (vax va (c 0 2) v) D x ∧ ClM q z.2.1 z.2.2 (cax c o w m a)) := by
    intro hm0 ho0
    unfold fX13_act_b84
    simp (disch := omega) only [e20, e27, mset_n, mset_s, mck_s, sI_nn, nn_s, sI_lt, sI_le, sI_eq, sI_ltl, sI_lel, sI_eql, sI_llt, sI_lle, sI_1, bI_0, bI_1, bI_n, mlet, mb3_s, mb2_s]
    rw [if_pos trivial]
    by_cases h6 : 600 ≤ c 0 2
    · rw [if_pos (by omega)]
      refine wq_some ⟨fun _ _ => rfl, fr, ?_⟩
      rw [if_neg ho0, if_neg hm0, if_pos h6]
      exact ⟨rfl, h0, hcl0⟩
    rw [if_neg (by omega)]
    refine wq_some ⟨fun b hb => mset_rown hb, ?_, ?_⟩
    all_goals (try dsimp only)
    · intro b y u1
      simp (disch := omega) only [mset_n]
    rw [if_neg ho0, if_neg hm0, if_neg h6]
    refine ⟨rfl, ?_, ?_⟩
    · refine ReM_x h (fun b y u1 u2 => by simp (disch := omega) only [mset_n]) (fun b hb => mset_rown hb) (fun j hj => cax_0 hj) (fun i u1 u2 => cax_r u1 u2) ?_
      rw [cax_n]
      refine ⟨by simp (disch := omega) only [mset_n, mset_s], fun i hi => ?_⟩
      show _ = sI (cax c o w m a 8 i) ∧ _ = sI (cax c o w m a 9 i + 3 * cax c o w m a 11 i) ∧ _ = sI (cax c o w m a 10 i) ∧ _ = (vax va (c 0 2) v i).toInt64
      unfold vax
      by_cases hq : i = c 0 2
      · subst hq
        rw [cax_8, cax_9, cax_10, cax_11, if_pos rfl]
        simp (disch := omega) only [mset_n, mset_s, and_true, true_and]
      · rw [cax_s (by omega) hq, cax_s (by omega) hq, cax_s (by omega) hq, cax_s (by omega) hq, if_neg hq]
        simp (disch := omega) only [mset_n]
        exact h.2.2.1.2 i (by omega)
    · refine ⟨?_, ?_⟩
      · rw [cax_0 (by omega)]
        intro s u1 u2
        simp (disch := omega) only [mset_n]
        exact hcl.1 s u1 u2
      · rw [cax_0 (by omega)]
        intro s u1 u2
        simp (disch := omega) only [mset_n]
        exact hcl.2 s u1 u2
  have stop1 : o = 0 → wq (fX13_act_b47 fu q (sI o) (sI (w + 3 * a)) (sI m) v.toInt64 (mset M q 0 0) L) (fun z => (∀ b, b ≠ q + 20 → z.2.2 b = L b) ∧ (∀ b y, ¬ (q ≤ b ∧ b ≤ q + 19) → z.2.1 b y = M b y) ∧ if o = 0 then z.1 = -1 ∧ ReM q z.2.1 z.2.2 c b00 va D x ∧ ClM q z.2.1 z.2.2 c else if w ≠ 2 ∧ 2 ≤ c 2 o then z.1 = -2 ∧ ReM q z.2.1 z.2.2 c b00 va D x ∧ ClM q z.2.1 z.2.2 c else if 600 ≤ c 0 2 then z.1 = -4 ∧ ReM q z.2.1 z.2.2 c b00 va D x ∧ ClM q z.2.1 z.2.2 c else z.1 = sI (c 0 2 + 1) ∧ ReM q z.2.1 z.2.2 (cax c o w m a) b00 (vax va (c 0 2) v) D x ∧ ClM q z.2.1 z.2.2 (cax c o w m a)) := by
    intro ho0
    unfold fX13_act_b47
    refine wq_some ⟨fun _ _ => rfl, fr, ?_⟩
    rw [if_pos ho0]
    exact ⟨rfl, h0, hcl0⟩
  have n2 : mset M q 0 0 q 2 = sI (c 0 0) := (mset_j (by omega)).trans e2
  have n12 : mset M q 0 0 q 12 = sI (c 0 1) := (mset_j (by omega)).trans e12
  have ko : sI o < 1 ↔ o < 1 := sI_ltl (by omega) (by decide)
  have b44 : ∀ (v6 : Int32) (n : Nat), n ≤ 400 → o ≤ n → o ≠ 0 → fX13_act_b44 fu q (sI o) (sI (w + 3 * a)) (sI m) v.toInt64 v6 (sI n) (mset M q 0 0) L = if v6 = 0 then mb3 (DX13_mark fu q (sI o) (mset M q 0 0) L) (fun r11 M9 L10 => (if r11 = 0 then fX13_act_b84 fu q (sI o) (sI (w + 3 * a)) (sI m) v.toInt64 M9 L10 else fX13_act_b81 fu q (sI o) (sI (w + 3 * a)) (sI m) v.toInt64 M9 L10)) else fX13_act_b84 fu q (sI o) (sI (w + 3 * a)) (sI m) v.toInt64 (mset M q 0 0) L := by
    intro v6 n hn1 hn2 ho0
    unfold fX13_act_b44
    rw [if_pos (by rw [sI_le (by omega) (by omega)]; exact hn2), if_neg (by rw [sI_ltl (by omega) (by decide)]; omega), if_neg (by rw [sI_llt (by decide) (by omega)]; omega), if_neg (by rw [sI_ltl (by omega) (by decide)]; omega), if_neg (by rw [sI_llt (by decide) (by omega)]; omega)]
  unfold DX13_act
  simp only [mlet]
  by_cases ho0 : o = 0
  · have := stop1 ho0
    have e0 : sI o < 1 := ko.mpr (by omega)
    have s20 : ∀ s0, fX13_act_b20 fu q (sI o) (sI (w + 3 * a)) (sI m) v.toInt64 s0 (mset M q 0 0) L = fX13_act_b47 fu q (sI o) (sI (w + 3 * a)) (sI m) v.toInt64 (mset M q 0 0) L := by
      intro s0
      unfold fX13_act_b20
      rw [if_pos e0]
    unfold fX13_act_b15
    rw [s20, s20]
    exact wq_if (fun _ => this) (fun _ => wq_if (fun _ => this) (fun _ => this))
  have e0 : ¬ (sI o < 1) := fun z => by have := ko.mp z; omega
  by_cases hw2 : w = 2
  · have : ∀ G : Option (Int32 × mwM × mwL), (if sI (w + 3 * a) = 2 then fX13_act_b15 fu q (sI o) (sI (w + 3 * a)) (sI m) v.toInt64 (mset M q 0 0) L else if sI (w + 3 * a) = 5 then fX13_act_b15 fu q (sI o) (sI (w + 3 * a)) (sI m) v.toInt64 (mset M q 0 0) L else G) = fX13_act_b15 fu q (sI o) (sI (w + 3 * a)) (sI m) v.toInt64 (mset M q 0 0) L := by
      intro G
      by_cases ha0 : a = 0
      · rw [if_pos (by rw [hw2, ha0]; rfl)]
      · rw [if_neg (by rw [sI_eql (by omega) (by decide)]; omega), if_pos (by rw [hw2, show a = 1 by omega]; rfl)]
    rw [this]
    unfold fX13_act_b15 fX13_act_b20
    rw [if_neg e0, if_neg (by decide), n12, b44 _ _ (by omega) (ho3 hw2) ho0, if_neg (by decide)]
    exact main (fun z => z.1 hw2) ho0
  · rw [if_neg (by rw [sI_eql (by omega) (by decide)]; omega), if_neg (by rw [sI_eql (by omega) (by decide)]; omega)]
    unfold fX13_act_b20
    rw [if_neg e0, if_pos rfl, n2, b44 _ _ (by omega) (ho2 hw2) ho0, if_pos rfl, m_mark hT h0.1 (ho2 hw2), mb3_s]
    by_cases hk : 2 ≤ c 2 o
    · rw [decide_eq_true hk, if_neg (by decide)]
      unfold fX13_act_b81
      refine wq_some ⟨fun _ _ => rfl, fr, ?_⟩
      rw [if_neg ho0, if_pos ⟨hw2, hk⟩]
      exact ⟨rfl, h0, hcl0⟩
    · rw [decide_eq_false hk, if_pos bI_f]
      exact main (fun z => hk z.2) ho0
end CAX
