/-! the reference's row of bits -/
theorem m_put12 {fu R b c : Nat} {M : mwM} {L : mwL} (hR : M 821 37 = sI R) (hR2 : R < 1200) (hb : b < 2) (hc : c < 2) : DX12_put fu (sI b) (sI c) M L = some (mset (mset (mset M 849 R (sI b)) 850 R (sI c)) 821 37 (sI (R + 1)), L) := by
  unfold DX12_put
  have nz : ∀ c, c < 2 → vp_nar .boolean (sI c) = sI c := by decide
  simp only [mlet]
  rw [hR, mck_s hR2 (by omega), sI_nn (by omega), nb2 b hb, mset_n (show ¬ (821 = 849 ∧ 37 = R) by omega), hR, mck_s hR2 (by omega), sI_nn (by omega), nz c hc, mset_n (show ¬ (821 = 850 ∧ 37 = R) by omega), mset_n (show ¬ (821 = 849 ∧ 37 = R) by omega), hR, sI_1]
/-- the run of like bits at the end -/
def RunI (R F : Nat → Nat) (len same last : Nat) : Prop := same ≤ len ∧ (∀ t, t < same → R (len - 1 - t) = last) ∧ (∀ t, t + 1 < same → F (len - 1 - t) = 0) ∧ (1 ≤ same → len - same = 0 ∨ F (len - same) = 1 ∨ R (len - same - 1) ≠ R (len - same))
theorem Run_p {R F : Nat → Nat} {len same last b : Nat} (h : RunI R F len same last) (h0 : 1 ≤ same ∨ len = 0) : RunI (nst R len b) (nst F len 0) (len + 1) (if b = last then same + 1 else 1) b := by
  obtain ⟨r1, r2, r3, r4⟩ := h
  by_cases c : b = last
  · rw [if_pos c]
    refine ⟨by omega, fun t u => ?_, fun t u => ?_, fun _ => ?_⟩
    · by_cases z : t = 0
      · rw [z, show len + 1 - 1 - 0 = len by omega, nst_s]
      · rw [show len + 1 - 1 - t = len - 1 - (t - 1) by omega, nst_n (by omega), c]
        exact r2 (t - 1) (by omega)
    · by_cases z : t = 0
      · rw [z, show len + 1 - 1 - 0 = len by omega, nst_s]
      · rw [show len + 1 - 1 - t = len - 1 - (t - 1) by omega, nst_n (by omega)]
        exact r3 (t - 1) (by omega)
    · rw [show len + 1 - (same + 1) = len - same by omega]
      by_cases z : 1 ≤ same
      · rcases r4 z with w | w | w
        · exact Or.inl w
        · exact Or.inr (Or.inl (by rw [nst_n (by omega)]; exact w))
        · exact Or.inr (Or.inr (by rw [nst_n (by omega), nst_n (by omega)]; exact w))
      · left
        omega
  · rw [if_neg c]
    refine ⟨by omega, fun t u => ?_, fun t u => by omega, fun _ => ?_⟩
    · have : t = 0 := by omega
      rw [this, show len + 1 - 1 - 0 = len by omega, nst_s]
    · rw [show len + 1 - 1 = len by omega]
      by_cases z : len = 0
      · exact Or.inl z
      · right
        right
        rw [nst_s, nst_n (by omega)]
        have := r2 0 (by omega)
        rw [show len - 1 - 0 = len - 1 by omega] at this
        omega
theorem Run_s {R F : Nat → Nat} {len b : Nat} : RunI (nst R (len + 1) b) (nst F (len + 1) 1) (len + 2) 1 b := by
  refine ⟨by omega, fun t u => ?_, fun t u => by omega, fun _ => Or.inr (Or.inl ?_)⟩
  · have : t = 0 := by omega
    rw [this, show len + 2 - 1 - 0 = len + 1 by omega, nst_s]
  · rw [show len + 2 - 1 = len + 1 by omega, nst_s]
theorem Run_j {f : Nat → Nat} (hf : ∀ i, f i < 2) : ∀ j, RunI (lyR f j) (lyF f j) (lyN f j).1 (lyN f j).2.1 (lyN f j).2.2 := by
  intro j
  induction j with
  | zero => exact ⟨by show 0 ≤ 0; omega, fun t u => absurd u (by show ¬ t < 0; omega), fun t u => absurd u (by show ¬ t + 1 < 0; omega), fun u => absurd u (by show ¬ 1 ≤ 0; omega)⟩
  | succ j ih =>
    have i5 := (lyN_b hf j).2.2.2.2
    have h0 : 1 ≤ (lyN f j).2.1 ∨ (lyN f j).1 = 0 := by
      by_cases z : 1 ≤ j
      · exact Or.inl (i5 z)
      · right
        rw [show j = 0 by omega]
        rfl
    have p := Run_p (b := f j) ih h0
    by_cases c : lyS f j = 5
    · obtain ⟨r1, r2, r3⟩ := lyR_5 c
      rw [lyN_5 c, r1, r2]
      exact Run_s
    · obtain ⟨r1, r2, r3⟩ := lyR_n c
      rw [lyN_n c, r1, r2]
      exact p
theorem m_five {fu len same last : Nat} {R F : Nat → Nat} {M : mwM} {L : mwL} (hfu : 10 ≤ fu) (hr : RunI R F len same last) (hs1 : 1 ≤ same) (hs5 : same ≤ 5) (hlen : len < 1200) (h37 : M 821 37 = sI len) (hM : ∀ i, i < len → M 849 i = sI (R i) ∧ R i < 2 ∧ M 850 i = sI (F i) ∧ F i < 2) : DX12_five fu M L = some (bI (decide (same = 5)), M, L) := by
  obtain ⟨r1, r2, r3, r4⟩ := hr
  unfold DX12_five
  simp only [mlet]
  rw [h37, show sI len - 1 = sI (len - 1) from sI_sub (b := 1) (by omega)]
  have stop : fX12_five_b53 fu (sI same) M L = some (bI (decide (same = 5)), M, L) := by
    unfold fX12_five_b53 fX12_five_b63
    simp only [mzz_0, mzz_1]
    by_cases c : same = 5
    · rw [if_pos (show sI same = 5 by rw [c]; rfl), decide_eq_true c]
      rfl
    · rw [if_neg (show ¬ sI same = 5 by rw [sI_eql (by omega) (by decide)]; exact c), decide_eq_false c]
      rfl
  have key : ∀ (m t f : Nat), t + 1 + m = same → m < f → fX12_five_h9 fu f (sI (t + 1), sI (len - 1 - t), M, L) = some (bI (decide (same = 5)), M, L) := by
    intro m
    induction m with
    | zero =>
      intro t f ht hf1
      obtain ⟨g, rfl⟩ : ∃ g, f = g + 1 := ⟨f - 1, by omega⟩
      unfold fX12_five_h9
      rw [mloop_S]
      show fX12_five_i9 fu _ (sI (t + 1)) (sI (len - 1 - t)) M L = _
      have ts : t + 1 = same := by omega
      have e : len - 1 - t = len - same := by omega
      rw [ts, e]
      unfold fX12_five_i9
      rw [stop]
      by_cases c1 : len - same = 0
      · rw [if_pos (show sI (len - same) ≤ 0 by rw [c1]; decide)]
      · rw [if_neg (show ¬ sI (len - same) ≤ 0 by rw [sI_lel (by omega) (by decide)]; omega), mck_s (by omega) (by omega), show sI (len - same) - 1 = sI (len - same - 1) from sI_sub (b := 1) (by omega), mck_s (by omega) (by omega), sI_nn (by omega), sI_nn (by omega)]
        obtain ⟨a1, a2, a3, a4⟩ := hM (len - same) (by omega)
        obtain ⟨b1, b2, _, _⟩ := hM (len - same - 1) (by omega)
        rw [a1, b1]
        by_cases c2 : R (len - same) = R (len - same - 1)
        · rw [if_pos (by rw [c2]), mck_s (by omega) (by omega), a3]
          have c3 : F (len - same) = 1 := by
            rcases r4 hs1 with w | w | w
            · omega
            · exact w
            · omega
          rw [if_neg (show ¬ sI (F (len - same)) = 0 by rw [c3]; decide)]
        · rw [if_neg (by rw [sI_eq (by omega) (by omega)]; exact c2)]
    | succ m ih =>
      intro t f ht hf1
      obtain ⟨g, rfl⟩ : ∃ g, f = g + 1 := ⟨f - 1, by omega⟩
      unfold fX12_five_h9
      rw [mloop_S]
      show fX12_five_i9 fu (fX12_five_h9 fu g) (sI (t + 1)) (sI (len - 1 - t)) M L = _
      unfold fX12_five_i9
      obtain ⟨a1, a2, a3, a4⟩ := hM (len - 1 - t) (by omega)
      obtain ⟨b1, b2, _, _⟩ := hM (len - 1 - t - 1) (by omega)
      have e1 := r2 t (by omega)
      have e2 := r2 (t + 1) (by omega)
      rw [show len - 1 - (t + 1) = len - 1 - t - 1 by omega] at e2
      rw [if_neg (show ¬ sI (len - 1 - t) ≤ 0 by rw [sI_lel (by omega) (by decide)]; omega), mck_s (by omega) (by omega), show sI (len - 1 - t) - 1 = sI (len - 1 - t - 1) from sI_sub (b := 1) (by omega), mck_s (by omega) (by omega), sI_nn (by omega), sI_nn (by omega), a1, b1, if_pos (by rw [e1, e2]), mck_s (by omega) (by omega), a3, r3 t (by omega), if_pos (show sI 0 = 0 from rfl), if_neg (show ¬ 5 ≤ sI (t + 1) by rw [sI_lle (by decide) (by omega)]; omega)]
      simp only [mlet]
      rw [sI_1, show sI (len - 1 - t) + (-1) = sI (len - 1 - (t + 1)) by rw [show len - 1 - t = (len - 1 - (t + 1)) + 1 by omega]; exact sI_pm]
      exact ih (t + 1) g (by omega) (by omega)
  exact key (same - 1) 0 fu (by omega) (by omega)
def WrM (M : mwM) (f : Nat → Nat) : Prop := M 821 37 = sI (wN f + 10) ∧ (∀ i, i < wN f + 10 → M 849 i = sI (wR f i) ∧ M 850 i = sI (if i < wN f then lyF f 98 i else 0)) ∧ M 821 38 = sI ((lyN f 13).1 + 1)
def wF (M M' : mwM) : Prop := ∀ a y, ¬ (a = 821 ∧ (y = 34 ∨ y = 37 ∨ y = 38 ∨ y = 41 ∨ y = 48)) → a ≠ 848 → a ≠ 849 → a ≠ 850 → a ≠ 852 → M' a y = M a y
theorem m_writeAnew {fu f id : Nat} {oc : Nat → Nat} {M : mwM} {L : mwL} (hfu : 200 ≤ fu) (hf : f < 200) (hid : id < 2048) (hF : FrM1 M f id oc) : wq (DX12_writeAnew fu (sI f) M L) (fun z => z.2 = L ∧ WrM z.1 (fbF id oc) ∧ z.1 821 48 = -1 ∧ wF M z.1) := by
  unfold DX12_writeAnew
  refine wq_b2 (m_writePlain (L := L) hfu hf hid hF) ?_
  rintro M1 L1 ⟨a1, a2, a3, a4, a5⟩
  dsimp only at a1 a2 a3 a4 a5
  subst a1
  have q825 : M1 825 f = 0 := by rw [a5 825 f (by omega) (by omega)]; exact hF.2.1
  unfold fX12_writeAnew_b30 fX12_writeAnew_b50 fX12_writeAnew_b87
  simp only [mlet]
  simp (disch := omega) only [mck_s, sI_nn, q825]
  simp (decide := true) only [ite_true, ite_false]
  have wb := wN_b (f := fbF id oc) (fbF_lt id oc)
  -- the sum
  refine wq_for (body := fun r z => fX12_writeAnew_i105 fu (sI f) r z.1 z.2.1 z.2.2.1 z.2.2.2.1 z.2.2.2.2.1 z.2.2.2.2.2.1 z.2.2.2.2.2.2) (fun j (x : mwM) => (0, 13, 15, 0, sI j, x, L1)) (fun j x => x 821 41 = sI j ∧ (∀ i, i < j → x 852 i = sI (pbF id oc i)) ∧ x 821 37 = sI 0 ∧ ∀ a y, ¬ (a = 821 ∧ (y = 41 ∨ y = 37)) → a ≠ 852 → x a y = M1 a y) 83 ?_ ?_ 83 0 (mset (mset M1 821 37 0) 821 41 0) fu (by omega) (by omega) ⟨by rw [mset_s]; rfl, fun i u => by omega, by rw [mset_n (by omega), mset_s]; rfl, fun a y u1 u2 => by rw [mset_n (by omega), mset_n (by omega)]⟩
  · intro j x r hj ⟨x1, x2, x3, x4⟩ ih
    show wq (fX12_writeAnew_i105 fu (sI f) r 0 13 15 0 (sI j) x L1) _
    unfold fX12_writeAnew_i105
    rw [x4 821 34 (by omega) (by omega), a2, if_neg (by rw [sI_le (by omega) (by omega)]; omega), mck_s (by omega) (by omega), sI_nn (by omega), x4 848 j (by omega) (by omega), a3 j hj, m_check x1 (by omega) (pbF_lt _ _ _), mb2_s]
    simp only [mlet]
    rw [sI_1]
    refine ih _ ⟨mset_s, fun i u => ?_, by rw [mset_n (by omega), mset_n (by omega)]; exact x3, fun a y u1 u2 => by rw [mset_n (by omega), mset_n (by omega)]; exact x4 a y u1 u2⟩
    rw [mset_n (by omega)]
    by_cases q : i = j
    · rw [q, mset_s]
    · rw [mset_n (by omega)]
      exact x2 i (by omega)
  · intro x r ⟨x1, x2, x3, x4⟩
    show wq (fX12_writeAnew_i105 fu (sI f) r 0 13 15 0 (sI 83) x L1) _
    unfold fX12_writeAnew_i105 fX12_writeAnew_b162
    have co : DX12_checkOf fu 15 x L1 = some (sI (ckF id oc), x, L1) := m_checkOf (w := 15) (c := 83) (s := pbF id oc) (by omega) (by omega) x1 (by omega) (fun i u => ⟨x2 i u, pbF_lt _ _ _⟩)
    rw [x4 821 34 (by omega) (by omega), a2, if_pos (by decide), co, mb3_s]
    simp only [mlet]
    rw [mset_n (show ¬ (821 = 821 ∧ 34 = 41) by omega), x4 821 34 (by omega) (by omega), a2, if_pos True.intro]
    have ckl := ckF_lt id oc
    refine wq_b2 (m_bits (v := ckF id oc) (n := 15) (P := 83) (M := mset x 821 41 0) (L := L1) (by omega) (by omega) (by omega) (by omega) (by rw [mset_n (by omega), x4 821 34 (by omega) (by omega), a2]) (by omega)) ?_
    rintro M2 L2 ⟨b1, b2, b3, b4⟩
    dsimp only at b1 b2 b3 b4
    subst b1
    have pl : ∀ i, i < 98 → M2 848 i = sI (fbF id oc i) := fun i u => by
      unfold fbF
      by_cases z : i < 83
      · rw [if_pos z, b4 848 i (by omega) (by omega), mset_n (by omega), x4 848 i (by omega) (by omega)]
        exact a3 i z
      · rw [if_neg z]
        have := b3 (i - 83) (by omega)
        rw [show 83 + (i - 83) = i by omega, show 15 - 1 - (i - 83) = 14 - (i - 83) by omega] at this
        exact this
    have fM2 : ∀ a y, ¬ (a = 821 ∧ (y = 34 ∨ y = 37 ∨ y = 41 ∨ y = 48)) → a ≠ 848 → a ≠ 852 → M2 a y = M a y := fun a y u1 u2 u3 => by
      rw [b4 a y (by omega) (by omega), mset_n (by omega), x4 a y (by omega) u3]
      exact a5 a y (by omega) u2
    have k48 : M2 821 48 = -1 := by rw [b4 821 48 (by omega) (by omega), mset_n (by omega), x4 821 48 (by omega) (by omega)]; exact a4
    have k37 : M2 821 37 = sI 0 := by rw [b4 821 37 (by omega) (by omega), mset_n (by omega)]; exact x3
    have k41 : M2 821 41 = sI 0 := by rw [b4 821 41 (by omega) (by omega), mset_s]; rfl
    clear x1 x2 x3 x4 b3 b4 co
    -- the row
    have hlt := fbF_lt id oc
    generalize fbF id oc = fb at *
    refine wq_for (body := fun r z => fX12_writeAnew_i165 fu (sI f) r z.1 z.2.1 z.2.2.1 z.2.2.2.1 z.2.2.2.2.1 z.2.2.2.2.2.1 z.2.2.2.2.2.2.1 z.2.2.2.2.2.2.2) (fun j (x : mwM) => (0, 13, 15, sI ((lyN fb j).1 - j), sI 83, sI j, x, L2)) (fun j x => x 821 37 = sI (lyN fb j).1 ∧ x 821 41 = sI (lyN fb j).1 ∧ (∀ i, i < (lyN fb j).1 → x 849 i = sI (lyR fb j i) ∧ x 850 i = sI (lyF fb j i)) ∧ (14 ≤ j → x 821 38 = sI ((lyN fb 13).1 + 1)) ∧ ∀ a y, ¬ (a = 821 ∧ (y = 37 ∨ y = 38 ∨ y = 41)) → a ≠ 849 → a ≠ 850 → a ≠ 852 → x a y = M2 a y) 98 ?_ ?_ 98 0 M2 fu (by omega) (by omega) ⟨k37, k41, fun i u => absurd u (by show ¬ i < 0; omega), fun u => by omega, fun _ _ _ _ _ _ => rfl⟩
    · intro j x r hj ⟨x1, x2, x3, x4, x5⟩ ih
      show wq (fX12_writeAnew_i165 fu (sI f) r 0 13 15 (sI ((lyN fb j).1 - j)) (sI 83) (sI j) x L2) _
      obtain ⟨i1, i2, i3, i4, i5⟩ := lyN_b hlt j
      have run := Run_j hlt j
      have lb := ly_b hlt j
      have h0 : 1 ≤ (lyN fb j).2.1 ∨ (lyN fb j).1 = 0 := by
        by_cases z : 1 ≤ j
        · exact Or.inl (i5 z)
        · right
          rw [show j = 0 by omega]
          rfl
      have rp := Run_p (b := fb j) run h0
      have hbj := hlt j
      have sl : 1 ≤ lyS fb j ∧ lyS fb j ≤ 5 := by unfold lyS; split <;> omega
      generalize hlen : (lyN fb j).1 = len at *
      unfold fX12_writeAnew_i165
      have pj : x 848 j = sI (fb j) := by rw [x5 848 j (by omega) (by omega) (by omega) (by omega)]; exact pl j hj
      have pt := m_put12 (fu := fu) (L := L2) (c := 0) x1 (by omega) hbj (by omega)
      rw [x5 821 34 (by omega) (by omega) (by omega) (by omega), b2, if_neg (show ¬ sI (83 + 15) ≤ sI j by rw [sI_le (by omega) (by omega)]; omega), mck_s (by omega) (by omega), sI_nn (by omega), pj, show (0 : Int32) = sI 0 from rfl, pt, mb2_s, mck_s (by omega) (by omega)]
      generalize hX1 : mset (mset (mset x 849 len (sI (fb j))) 850 len (sI 0)) 821 37 (sI (len + 1)) = X1
      have f1 : ∀ a y, ¬ (a = 821 ∧ y = 37) → ¬ (a = 849 ∧ y = len) → ¬ (a = 850 ∧ y = len) → X1 a y = x a y := fun a y u1 u2 u3 => by rw [← hX1, mset_n u1, mset_n u3, mset_n u2]
      have v37 : X1 821 37 = sI (len + 1) := by rw [← hX1, mset_s]
      have vR : ∀ i, i < len + 1 → X1 849 i = sI (nst (lyR fb j) len (fb j) i) ∧ nst (lyR fb j) len (fb j) i < 2 ∧ X1 850 i = sI (nst (lyF fb j) len 0 i) ∧ nst (lyF fb j) len 0 i < 2 := fun i u => by
        by_cases z : i = len
        · rw [z, nst_s, nst_s, ← hX1]
          refine ⟨?_, hbj, ?_, by omega⟩
          · rw [mset_n (by omega), mset_n (by omega), mset_s]
          · rw [mset_n (by omega), mset_s]
        · rw [nst_n z, nst_n z, f1 849 i (by omega) (by omega) (by omega), f1 850 i (by omega) (by omega) (by omega)]
          obtain ⟨l1, l2, l3, _⟩ := lb i (by omega)
          exact ⟨(x3 i (by omega)).1, l1, (x3 i (by omega)).2, l2⟩
      rw [f1 848 j (by omega) (by omega) (by omega), pj, m_check (M := X1) (by rw [f1 821 41 (by omega) (by omega) (by omega)]; exact x2) (by omega) hbj, mb2_s]
      generalize hX2 : mset (mset X1 852 len (sI (fb j))) 821 41 (sI (len + 1)) = X2
      have f2 : ∀ a y, ¬ (a = 821 ∧ y = 41) → a ≠ 852 → X2 a y = X1 a y := fun a y u1 u2 => by rw [← hX2, mset_n u1, mset_n (by omega)]
      have v41 : X2 821 41 = sI (len + 1) := by rw [← hX2, mset_s]
      -- arbitration, and what follows
      have b215 : ∀ (w : Int32), (13 ≤ j → w = sI ((lyN fb 13).1 + 1)) → wq (fX12_writeAnew_b215 fu (sI f) r (sI 0) 13 15 (sI (len - j)) (sI 83) (sI j) w X2 L2) (fun z => z.2 = L2 ∧ WrM z.1 fb ∧ z.1 821 48 = -1 ∧ wF M z.1) := by
        intro w hw
        unfold fX12_writeAnew_b215
        simp only [mlet]
        have fv := m_five (fu := fu) (L := L2) (M := mset X2 821 38 w) (len := len + 1) (by omega) rp sl.1 sl.2 (by omega) (by rw [mset_n (by omega), f2 821 37 (by omega) (by omega)]; exact v37) (fun i u => by
          rw [mset_n (by omega), mset_n (by omega), f2 849 i (by omega) (by omega), f2 850 i (by omega) (by omega)]
          exact vR i u)
        rw [fv, mb3_s]
        have e5 : (if fb j = (lyN fb j).2.2 then (lyN fb j).2.1 + 1 else 1) = lyS fb j := rfl
        rw [e5]
        unfold fX12_writeAnew_b238 fX12_writeAnew_b268
        simp only [mlet]
        by_cases c : lyS fb j = 5
        · obtain ⟨r1, r2, r3⟩ := lyR_5 c
          have rn := lyN_5 c
          rw [hlen] at r1 r2 r3 rn
          have p848 : (mset X2 821 38 w) 848 j = sI (fb j) := by
            rw [mset_n (by omega), f2 848 j (by omega) (by omega), f1 848 j (by omega) (by omega) (by omega)]; exact pj
          have pt2 := m_put12 (fu := fu) (L := L2) (M := mset X2 821 38 w) (R := len + 1) (b := 1 - fb j) (c := 1) (by rw [mset_n (by omega), f2 821 37 (by omega) (by omega)]; exact v37) (by omega) (by omega) (by omega)
          rw [decide_eq_true c, if_neg (show ¬ bI true = 0 by decide), if_pos (show sI 0 = 0 from rfl), mck_s (by omega) (by omega), sI_nn (by omega), p848, show (1 : Int32) - sI (fb j) = sI (1 - fb j) from sI_sub (a := 1) (by omega)]
          rw [show (DX12_put fu (sI (1 - fb j)) 1 (mset X2 821 38 w) L2) = _ from pt2, mb2_s, mck_s (by omega) (by omega)]
          generalize hX3 : mset (mset (mset (mset X2 821 38 w) 849 (len + 1) (sI (1 - fb j))) 850 (len + 1) (sI 1)) 821 37 (sI (len + 1 + 1)) = X3
          have f3 : ∀ a y, ¬ (a = 821 ∧ (y = 37 ∨ y = 38)) → ¬ (a = 849 ∧ y = len + 1) → ¬ (a = 850 ∧ y = len + 1) → X3 a y = X2 a y := fun a y u1 u2 u3 => by rw [← hX3, mset_n (by omega), mset_n u3, mset_n u2, mset_n (by omega)]
          have w37 : X3 821 37 = sI (len + 2) := by rw [← hX3, mset_s]
          have w38 : X3 821 38 = w := by rw [← hX3, mset_n (by omega), mset_n (by omega), mset_n (by omega), mset_s]
          rw [f3 848 j (by omega) (by omega) (by omega), f2 848 j (by omega) (by omega), f1 848 j (by omega) (by omega) (by omega), pj, show (1 : Int32) - sI (fb j) = sI (1 - fb j) from sI_sub (a := 1) (by omega), m_check (M := X3) (by rw [f3 821 41 (by omega) (by omega) (by omega)]; exact v41) (by omega) (show 1 - fb j < 2 by omega), mb2_s, sI_1, sI_1]
          have := ih (mset (mset X3 852 (len + 1) (sI (1 - fb j))) 821 41 (sI (len + 1 + 1))) ?_
          · rw [rn] at this
            dsimp only at this
            rw [show len + 2 - (j + 1) = len - j + 1 by omega] at this
            exact this
          · rw [rn, r1, r2]
            dsimp only
            refine ⟨by rw [mset_n (by omega), mset_n (by omega)]; exact w37, mset_s, fun i u => ?_, fun u => by rw [mset_n (by omega), mset_n (by omega), w38]; exact hw (by omega), fun a y u1 u2 u3 u4 => by rw [mset_n (by omega), mset_n (by omega), f3 a y (by omega) (by omega) (by omega), f2 a y (by omega) u4, f1 a y (by omega) (by omega) (by omega)]; exact x5 a y u1 u2 u3 u4⟩
            rw [mset_n (by omega), mset_n (by omega), mset_n (by omega), mset_n (by omega)]
            by_cases z : i = len + 1
            · rw [z, nst_s, nst_s, ← hX3]
              constructor
              · rw [mset_n (by omega), mset_n (by omega), mset_s]
              · rw [mset_n (by omega), mset_s]
            · rw [nst_n z, nst_n z, f3 849 i (by omega) (by omega) (by omega), f3 850 i (by omega) (by omega) (by omega), f2 849 i (by omega) (by omega), f2 850 i (by omega) (by omega)]
              obtain ⟨l1, _, l3, _⟩ := vR i (by omega)
              exact ⟨l1, l3⟩
        · obtain ⟨r1, r2, r3⟩ := lyR_n c
          have rn := lyN_n c
          rw [hlen] at r1 r2 r3 rn
          rw [decide_eq_false c, if_pos (show bI false = 0 from rfl), sI_1]
          have := ih (mset X2 821 38 w) ?_
          · rw [rn] at this
            dsimp only at this
            rw [show len + 1 - (j + 1) = len - j by omega] at this
            exact this
          · rw [rn, r1, r2]
            dsimp only
            refine ⟨by rw [mset_n (by omega), f2 821 37 (by omega) (by omega)]; exact v37, by rw [mset_n (by omega)]; exact v41, fun i u => ?_, fun u => by rw [mset_s]; exact hw (by omega), fun a y u1 u2 u3 u4 => by rw [mset_n (by omega), f2 a y (by omega) u4, f1 a y (by omega) (by omega) (by omega)]; exact x5 a y u1 u2 u3 u4⟩
            rw [mset_n (by omega), mset_n (by omega), f2 849 i (by omega) (by omega), f2 850 i (by omega) (by omega)]
            obtain ⟨l1, _, l3, _⟩ := vR i u
            exact ⟨l1, l3⟩
      by_cases c13 : j = 13
      · rw [if_pos (show sI j = 13 by rw [c13]; rfl), f2 821 37 (by omega) (by omega), v37]
        refine b215 _ (fun _ => ?_)
        rw [← hlen, c13]
      · rw [if_neg (show ¬ sI j = 13 by rw [sI_eql (by omega) (by decide)]; exact c13), f2 821 38 (by omega) (by omega), f1 821 38 (by omega) (by omega) (by omega)]
        exact b215 _ (fun u => x4 (by omega))
    · intro x r ⟨x1, x2, x3, x4, x5⟩
      show wq (fX12_writeAnew_i165 fu (sI f) r 0 13 15 (sI ((lyN fb 98).1 - 98)) (sI 83) (sI 98) x L2) _
      unfold fX12_writeAnew_i165 fX12_writeAnew_b289
      rw [x5 821 34 (by omega) (by omega) (by omega) (by omega), b2, if_pos (by decide), if_pos rfl]
      have x1' : x 821 37 = sI (wN fb) := x1
      have x3' : ∀ i, i < wN fb → x 849 i = sI (lyR fb 98 i) ∧ x 850 i = sI (lyF fb 98 i) := x3
      refine wq_for (body := fun r z => fX12_writeAnew_i292 fu (sI f) r z.1 z.2.1 z.2.2) (fun j (y : mwM) => (sI j, y, L2)) (fun j y => y 821 37 = sI (wN fb + j) ∧ (∀ i, i < wN fb + j → y 849 i = sI (wR fb i) ∧ y 850 i = sI (if i < wN fb then lyF fb 98 i else 0)) ∧ ∀ a b, ¬ (a = 821 ∧ b = 37) → a ≠ 849 → a ≠ 850 → y a b = x a b) 10 ?_ ?_ 10 0 x fu (by omega) (by omega) ⟨x1', fun i u => ?_, fun _ _ _ _ _ => rfl⟩
      · intro j y r hj ⟨y1, y2, y3⟩ ih
        show wq (fX12_writeAnew_i292 fu (sI f) r (sI j) y L2) _
        unfold fX12_writeAnew_i292
        have pt := m_put12 (fu := fu) (L := L2) (b := 1) (c := 0) y1 (by omega) (by omega) (by omega)
        rw [if_neg (by rw [sI_lle (by decide) (by omega)]; omega), show (DX12_put fu 1 0 y L2) = _ from pt, mb2_s]
        simp only [mlet]
        rw [sI_1]
        refine ih _ ⟨mset_s, fun i u => ?_, fun a b u1 u2 u3 => by rw [mset_n (by omega), mset_n (by omega), mset_n (by omega)]; exact y3 a b u1 u2 u3⟩
        by_cases z : i = wN fb + j
        · rw [z, if_neg (show ¬ wN fb + j < wN fb by omega)]
          unfold wR
          rw [if_neg (show ¬ wN fb + j < wN fb by omega)]
          simp (disch := omega) only [mset_n, mset_s]
          exact ⟨(by first | trivial | rfl), (by first | trivial | rfl)⟩
        · simp (disch := omega) only [mset_n]
          exact y2 i (by omega)
      · intro y r ⟨y1, y2, y3⟩
        show wq (fX12_writeAnew_i292 fu (sI f) r (sI 10) y L2) _
        unfold fX12_writeAnew_i292
        rw [if_pos (by decide)]
        refine wq_some ⟨rfl, ⟨y1, y2, ?_⟩, ?_, fun a b u1 u2 u3 u4 u5 => ?_⟩
        · dsimp only
          rw [y3 821 38 (by omega) (by omega) (by omega)]
          exact x4 (by omega)
        · dsimp only
          rw [y3 821 48 (by omega) (by omega) (by omega), x5 821 48 (by omega) (by omega) (by omega) (by omega)]
          exact k48
        · dsimp only
          rw [y3 a b (by omega) u3 u4, x5 a b (by omega) u3 u4 u5]
          exact fM2 a b (by omega) u2 u5
      · rw [Nat.add_zero] at u
        rw [if_pos u]
        unfold wR
        rw [if_pos u]
        exact x3' i u
