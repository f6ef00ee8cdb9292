/-! the reference's body: the loop -/
theorem hPl1_n {g : Nat → Nat} {i : Nat} (hi : i ≠ 1) : hPl1 g i = g i := by
  unfold hPl1
  split
  · split
    · exact nst_n hi
    · split
      · exact nst_n hi
      · rfl
  · rfl
theorem hPl1_0 {g : Nat → Nat} (h : hPl1 g 1 = 0) : hPl1 g = g := by
  unfold hPl1 at h ⊢
  split
  · split
    · rename_i c1 c2
      rw [if_pos c1, if_pos c2, nst_s] at h
      omega
    · split
      · rename_i c1 c2 c3
        rw [if_pos c1, if_neg c2, if_pos c3, nst_s] at h
        omega
      · rfl
  · rfl
theorem BM_1 {M : mwM} {s q g : Nat → Nat} {k : Nat} (h : BM M s k q g) : BM M s k q (hPl1 g) := by
  unfold BM kdH at h ⊢
  rw [hPl1_n (show 5 ≠ 1 by omega), hPl1_n (show 4 ≠ 1 by omega), hPl1_n (show 17 ≠ 1 by omega), hPl1_n (show 14 ≠ 1 by omega), hPl1_n (show 10 ≠ 1 by omega), hPl1_n (show 12 ≠ 1 by omega), hPl1_n (show 13 ≠ 1 by omega), hPl1_n (show 11 ≠ 1 by omega)]
  exact h
theorem ES_5 {s p h o : Nat → Nat} {k : Nat} (hE : ES s k p h o) : h 5 < 600 ∧ h 4 < 200 ∧ k < 800 := by
  obtain ⟨⟨e1, e2, e3, e4, e5, e6, _⟩, h1, hend⟩ := hE
  obtain ⟨_, _, _, _, _, _, _, _, _, _, b2, b3, _, _⟩ := PI_b e1
  have l5 : h 5 < 600 := by
    by_cases y : h 17 < 100000
    · have := b2 y
      unfold sEnd at hend
      split at hend <;> omega
    · have := b3 (by omega)
      omega
  omega
theorem m_bstep {fu n K k b : Nat} {s p h o : Nat → Nat} {M : mwM} {L : mwL} {r : Int32 × Int32 × Int32 × Int32 × Int32 × Int32 × Int32 × mwM × mwL → Option (Int32 × mwM × mwL)} {Q : Int32 × mwM × mwL → Prop} (hfu : 20 ≤ fu) (hn : n < 7) (hk : k < K) (hK : K ≤ 1000) (hE : ES s k p h o) (hB : BM M s k p h) (hb : b < 2) (hs : s k = b) (hse : M 837 (1200 * n + k) = sI b) (l2 : h 2 < 2)
    (q1 : rBody b h ≠ 0 → ∀ M', bF0 M M' → Q (sI (rBody b h), M', L))
    (q2 : rBody b h = 0 → hBody b h 1 ≠ 0 → ∀ M', bF0 M M' → M' 821 45 = sI (k + 1) → BM M' s (k + 1) (pBody b p h) (hBody b h) → Q (-1, M', L))
    (q3 : rBody b h = 0 → hBody b h 1 = 0 → ∀ M', bF0 M M' → M' 821 45 = M 821 45 → BM M' s (k + 1) (pBody b p h) (hBody b h) → wq (r (sI (K - 1), sI (hBody b h 2), sI (hBody b h 3), sI (ckA (hBody b h)), sI (hBody b h 12), sI (hBody b h 13), sI (k + 1), M', L)) Q) :
    wq (fX12_bodyAnew_i48 fu (sI n) r (sI (K - 1)) (sI (h 2)) (sI (h 3)) (sI (ckA h)) (sI (h 12)) (sI (h 13)) (sI k) M L) Q := by
  obtain ⟨l5, l4, lk⟩ := ES_5 hE
  obtain ⟨⟨e1, e2, e3, e4, e5, e6, _⟩, h1, hend⟩ := hE
  obtain ⟨_, w12, w13, _, w17, _, _, _, _, _, b2, b3, b4, _⟩ := PI_b e1
  obtain ⟨m1, m2, m3, m4, m5, m6⟩ := hB
  unfold fX12_bodyAnew_i48
  rw [if_neg (show ¬ sI (K - 1) < sI k by rw [sI_lt (by omega) (by omega)]; omega), m_bitAt hn (by omega) hse, mb3_s, m_check m4 (by omega) hb, mb2_s]
  generalize hM1 : mset (mset M 852 k (sI b)) 821 41 (sI (k + 1)) = M1
  have pf : ∀ a y, ¬ (a = 852 ∧ y = k) → ¬ (a = 821 ∧ y = 41) → M1 a y = M a y := fun a y u1 u2 => by rw [← hM1, mset_n u2, mset_n u1]
  have p41 : M1 821 41 = sI (k + 1) := by rw [← hM1, mset_s]
  have pch : ∀ i, i < k + 1 → M1 852 i = sI (s i) := fun i u => by
    by_cases z : i = k
    · rw [z, ← hM1, mset_n (by omega), mset_s, hs]
    · rw [pf 852 i (by omega) (by omega)]
      exact m5 i (by omega)
  have bF1 : bF0 M M1 := fun a y u1 u2 u3 => pf a y (by omega) (by omega)
  have p34 : M1 821 34 = sI (h 5) := by rw [pf 821 34 (by omega) (by omega)]; exact m1
  have p46 : M1 821 46 = sI (h 4) := by rw [pf 821 46 (by omega) (by omega)]; exact m3
  have ppl : ∀ i, i < h 5 → M1 848 i = sI (p i) := fun i u => by rw [pf 848 i (by omega) (by omega)]; exact m2 i u
  have pfd : h 17 < 100000 → M1 821 42 = sI (kdH h) ∧ M1 821 43 = sI (h 14) ∧ M1 821 44 = sI (h 10) := fun z => by
    rw [pf 821 42 (by omega) (by omega), pf 821 43 (by omega) (by omega), pf 821 44 (by omega) (by omega)]
    exact m6 z
  unfold rBody at q1 q2 q3
  unfold hBody pBody at q2 q3
  by_cases c1 : h 3 = 5
  · rw [if_pos c1] at q1
    rw [if_pos c1, if_pos c1, if_pos c1] at q2 q3
    rw [if_pos (show sI (h 3) = 5 by rw [c1]; rfl)]
    by_cases c2 : b = h 2
    · rw [if_pos c2] at q1
      rw [if_pos (show sI b = sI (h 2) by rw [c2])]
      exact wq_some (q1 (by omega) M1 bF1)
    · rw [if_neg c2] at q1 q2 q3
      rw [if_neg (show ¬ sI b = sI (h 2) by rw [sI_eq (by omega) (by omega)]; exact c2)]
      unfold fX12_bodyAnew_b390
      simp only [mlet]
      rw [p46, sI_1, mset_n (show ¬ (821 = 821 ∧ 34 = 46) by omega), p34, sI_adl, sI_1]
      have lck : ckA h < 50000 := by
        unfold ckA
        split
        · have := b2 (by assumption)
          omega
        · omega
      have eqv : h 5 = ckA h + 15 ↔ h 5 = sEnd h := by
        unfold sEnd ckA
        by_cases y : h 13 = 1
        · have hlt : h 5 < h 17 := by
            unfold sEnd at hend
            rw [if_pos y] at hend
            omega
          rw [if_pos y]
          by_cases z : h 17 < 100000
          · rw [if_pos z]; omega
          · rw [if_neg z]; omega
        · rw [if_neg y]
          by_cases z : h 17 < 100000
          · rw [if_pos z]
          · rw [if_neg z]; omega
      have bm : ∀ X, BM (mset M1 821 46 (sI (h 4 + 1))) s (k + 1) p (nst (hStuff b h) 1 X) ∧ BM (mset M1 821 46 (sI (h 4 + 1))) s (k + 1) p (hStuff b h) := fun X => by
        have : BM (mset M1 821 46 (sI (h 4 + 1))) s (k + 1) p (hStuff b h) := by
          refine ⟨by rw [mset_n (by omega)]; exact p34, fun i u => by rw [mset_n (by omega)]; exact ppl i u, by rw [mset_s]; rfl, by rw [mset_n (by omega)]; exact p41, fun i u => by rw [mset_n (by omega)]; exact pch i u, fun z => ?_⟩
          rw [mset_n (by omega), mset_n (by omega), mset_n (by omega)]
          exact pfd z
        exact ⟨this, this⟩
      by_cases c3 : h 5 = sEnd h
      · rw [if_pos c3] at q2 q3
        rw [if_pos (show sI (h 5) = sI (ckA h + 15) by rw [← eqv.mpr c3])]
        refine wq_some (q2 rfl (by rw [nst_s]; omega) _ (fun a y u1 u2 u3 => by rw [mset_n (by omega), mset_n (by omega)]; exact bF1 a y u1 u2 u3) mset_s ?_)
        obtain ⟨t1, t2, t3, t4, t5, t6⟩ := (bm 2).1
        refine ⟨by rw [mset_n (by omega)]; exact t1, fun i u => by rw [mset_n (by omega)]; exact t2 i u, by rw [mset_n (by omega)]; exact t3, by rw [mset_n (by omega)]; exact t4, fun i u => by rw [mset_n (by omega)]; exact t5 i u, fun z => ?_⟩
        rw [mset_n (by omega), mset_n (by omega), mset_n (by omega)]
        exact t6 z
      · rw [if_neg c3] at q2 q3
        rw [if_neg (show ¬ sI (h 5) = sI (ckA h + 15) by rw [sI_eq (by omega) (by omega)]; exact fun z => c3 (eqv.mp z))]
        refine q3 rfl h1 _ (fun a y u1 u2 u3 => by rw [mset_n (by omega)]; exact bF1 a y u1 u2 u3) (by rw [mset_n (by omega), pf 821 45 (by omega) (by omega)]) (bm 0).2
  · rw [if_neg c1] at q1
    rw [if_neg c1, if_neg c1, if_neg c1] at q2 q3
    rw [if_neg (show ¬ sI (h 3) = 5 by rw [sI_eql (by omega) (by decide)]; exact c1)]
    obtain ⟨g1, g2, g3, g4, g5, _⟩ := hPl0_n (b := b) (h := h)
    have both : wq (fX12_bodyAnew_b135 fu (sI n) r (sI (K - 1)) (sI (ckA h)) (sI (h 12)) (sI (h 13)) (sI k) (sI b) (sI (hPl0 b h 3)) M1 L) Q := by
      refine m_bplain hfu e1 hb l5 rfl (by rw [g3]; split <;> omega) p34 ppl p46 p41 pch pfd h1 (fun z M' hF => ?_) (fun z w M' hF h45 hB => ?_) (fun z w M' hF h45 hB => ?_)
      · unfold fmE at z
        rw [if_pos z] at q1
        exact q1 (by omega) M' (bF0_t bF1 hF)
      · unfold fmE at z
        rw [if_neg z] at q2
        exact q2 rfl w M' (bF0_t bF1 hF) h45 (BM_1 hB)
      · unfold fmE at z
        rw [if_neg z] at q3
        have := q3 rfl w M' (bF0_t bF1 hF) (by rw [h45, pf 821 45 (by omega) (by omega)]) (BM_1 hB)
        rw [hPl1_0 w, g2] at this
        exact this
    rw [g3] at both
    by_cases c2 : b = h 2
    · rw [if_pos (show sI b = sI (h 2) by rw [c2]), sI_1]
      rw [if_pos c2] at both
      exact both
    · rw [if_neg (show ¬ sI b = sI (h 2) by rw [sI_eq (by omega) (by omega)]; exact c2)]
      rw [if_neg c2] at both
      exact both
theorem ckA_00 : ckA h00 = 20000 := rfl
theorem m_bodyAnew {fu n K E : Nat} {s o0 : Nat → Nat} {M : mwM} {L : mwL} {Q : Int32 × mwM × mwL → Prop} (hfu : 1300 ≤ fu) (hn : n < 7) (hK1 : 1 ≤ K) (hK : K ≤ 1000) (h836 : M 836 n = sI K) (hse : ∀ i, i < K → M 837 (1200 * n + i) = sI (s i) ∧ s i < 2) (h0 : s 0 = 0) (hE2 : 2 ≤ E)
    (hES : ∀ j, 1 ≤ j → j < E → j ≤ K → ES s j (pq s j) (hq s j) (oq s o0 j)) (hr : ∀ j, 1 ≤ j → j + 1 < E → j < K → rBody (s j) (hq s j) = 0) (hst : E ≤ K → rBody (s (E - 1)) (hq s (E - 1)) = 0 → hq s E 1 ≠ 0)
    (q1 : E ≤ K → rBody (s (E - 1)) (hq s (E - 1)) ≠ 0 → ∀ M', bF0 M M' → Q (sI (rBody (s (E - 1)) (hq s (E - 1))), M', L))
    (q2 : E ≤ K → rBody (s (E - 1)) (hq s (E - 1)) = 0 → ∀ M', bF0 M M' → M' 821 45 = sI E → BM M' s E (pq s E) (hq s E) → Q (-1, M', L))
    (q3 : K < E → ∀ M', bF0 M M' → M' 821 45 = -1 → Q (-1, M', L)) : wq (DX12_bodyAnew fu (sI n) M L) Q := by
  have nxt : ∀ j, 1 ≤ j → j < E → j ≤ K → hq s (j + 1) = hBody (s j) (hq s j) ∧ pq s (j + 1) = pBody (s j) (pq s j) (hq s j) := fun j u1 u2 u3 => by
    have e2 := (hES j u1 u2 u3).2.1
    rw [hq_s u1, pq_s u1]
    constructor
    · unfold hAll
      rw [if_neg (by omega), if_neg (by omega)]
    · exact if_pos e2
  have loop : ∀ (m k f : Nat) (X : mwM), k + m = K → m < f → 1 ≤ k → k < E → BM X s k (pq s k) (hq s k) → bF0 M X → X 821 45 = -1 → wq (fX12_bodyAnew_h48 fu (sI n) f (sI (K - 1), sI (hq s k 2), sI (hq s k 3), sI (ckA (hq s k)), sI (hq s k 12), sI (hq s k 13), sI k, X, L)) Q := by
    intro m
    induction m with
    | zero =>
      intro k f X hk hf1 hk1 hkE hB hF h45
      obtain ⟨g, rfl⟩ : ∃ g, f = g + 1 := ⟨f - 1, by omega⟩
      have : k = K := by omega
      subst this
      unfold fX12_bodyAnew_h48
      rw [mloop_S]
      show wq (fX12_bodyAnew_i48 fu (sI n) _ (sI (k - 1)) (sI (hq s k 2)) (sI (hq s k 3)) (sI (ckA (hq s k))) (sI (hq s k 12)) (sI (hq s k 13)) (sI k) X L) Q
      unfold fX12_bodyAnew_i48
      rw [if_pos (show sI (k - 1) < sI k by rw [sI_lt (by omega) (by omega)]; omega)]
      exact wq_some (q3 (by omega) X hF h45)
    | succ m ih =>
      intro k f X hk hf1 hk1 hkE hB hF h45
      obtain ⟨g, rfl⟩ : ∃ g, f = g + 1 := ⟨f - 1, by omega⟩
      unfold fX12_bodyAnew_h48
      rw [mloop_S]
      show wq (fX12_bodyAnew_i48 fu (sI n) (fX12_bodyAnew_h48 fu (sI n) g) (sI (K - 1)) (sI (hq s k 2)) (sI (hq s k 3)) (sI (ckA (hq s k))) (sI (hq s k 12)) (sI (hq s k 13)) (sI k) X L) Q
      have hEk := hES k hk1 hkE (by omega)
      obtain ⟨nx1, nx2⟩ := nxt k hk1 hkE (by omega)
      have l2 : hq s k 2 < 2 := by
        rw [hEk.1.2.1]
        exact (hse _ (by omega)).2
      refine m_bstep (o := oq s o0 k) (by omega) hn (by omega) hK hEk hB (hse k (by omega)).2 rfl (by rw [hF 837 _ (by omega) (by omega) (by omega)]; exact (hse k (by omega)).1) l2 (fun z M' hF' => ?_) (fun z w M' hF' h45' hB' => ?_) (fun z w M' hF' h45' hB' => ?_)
      · have ek : E = k + 1 := by
          by_cases y : k + 1 < E
          · exact absurd (hr k hk1 y (by omega)) z
          · omega
        have := q1 (by omega)
        rw [ek, Nat.add_sub_cancel] at this
        exact this z M' (bF0_t hF hF')
      · have ek : E = k + 1 := by
          by_cases y : k + 1 < E
          · exfalso
            have := (hES (k + 1) (by omega) y (by omega)).2.1
            rw [nx1] at this
            exact w this
          · omega
        have := q2 (by omega)
        rw [ek, Nat.add_sub_cancel] at this
        rw [← nx1, ← nx2] at hB'
        exact this z M' (bF0_t hF hF') h45' hB'
      · have ek : k + 1 < E := by
          by_cases y : k + 1 < E
          · exact y
          · exfalso
            have e : E = k + 1 := by omega
            have := hst (by omega)
            rw [e, Nat.add_sub_cancel] at this
            have := this z
            rw [nx1] at this
            exact this w
        rw [← nx1, ← nx2] at hB'
        rw [← nx1]
        exact ih (k + 1) g M' (by omega) (by omega) (by omega) ek hB' (bF0_t hF hF') (by rw [h45', h45])
  unfold DX12_bodyAnew
  simp only [mlet]
  rw [mck_s (by omega) (by omega), sI_nn (by omega), h836, show sI K - 1 = sI (K - 1) from sI_sub (b := 1) (by omega)]
  generalize hM1 : mset (mset (mset (mset M 821 45 (-1)) 821 46 0) 821 34 0) 821 41 0 = M1
  have pf : ∀ a y, ¬ (a = 821 ∧ (y = 45 ∨ y = 46 ∨ y = 34 ∨ y = 41)) → M1 a y = M a y := fun a y u => by
    rw [← hM1]
    simp (disch := omega) only [mset_n]
  have pv : M1 821 45 = -1 ∧ M1 821 46 = sI 0 ∧ M1 821 34 = sI 0 ∧ M1 821 41 = sI 0 := by
    rw [← hM1]
    simp (disch := omega) only [mset_n, mset_s]
    exact ⟨(by first | trivial | rfl), (by first | trivial | rfl), (by first | trivial | rfl), (by first | trivial | rfl)⟩
  obtain ⟨f, rfl⟩ : ∃ f, fu = f + 1 := ⟨fu - 1, by omega⟩
  unfold fX12_bodyAnew_h48
  rw [mloop_S]
  show wq (fX12_bodyAnew_i48 (f + 1) (sI n) (fX12_bodyAnew_h48 (f + 1) (sI n) f) (sI (K - 1)) 1 0 20000 0 0 0 M1 L) Q
  have b0 := hse 0 (by omega)
  rw [h0] at b0
  have bt : DX12_bitAt (f + 1) (sI n) 0 M1 L = some (sI 0, M1, L) := m_bitAt (k := 0) hn (by omega) (by rw [pf 837 _ (by omega)]; exact b0.1)
  unfold fX12_bodyAnew_i48
  rw [if_neg (show ¬ sI (K - 1) < 0 by rw [sI_ltl (by omega) (by decide)]; omega), bt, mb3_s, m_check pv.2.2.2 (by omega) (by omega), mb2_s, if_neg (show ¬ (0 : Int32) = 5 by decide), if_neg (show ¬ sI 0 = 1 by decide)]
  unfold fX12_bodyAnew_b135 fX12_bodyAnew_b182 fX12_bodyAnew_b184 fX12_bodyAnew_b196 fX12_bodyAnew_b229 fX12_bodyAnew_b231 fX12_bodyAnew_b255 fX12_bodyAnew_b278 fX12_bodyAnew_b328 fX12_bodyAnew_b372 fX12_bodyAnew_b373 fX12_bodyAnew_b390
  simp only [mlet]
  have r34 : mset (mset M1 852 0 (sI 0)) 821 41 (sI (0 + 1)) 821 34 = sI 0 := by rw [mset_n (by omega), mset_n (by omega)]; exact pv.2.2.1
  rw [r34, mck_in (show vp_in (sI 0) 700 from sI_in (by omega) (by omega)), sI_nn (by omega), nb2 0 (by omega), mset_n (show ¬ (821 = 848 ∧ 34 = 0) by omega), r34, mset_s]
  simp (decide := true) only [ite_true, ite_false]
  refine loop (K - 1) 1 f _ (by omega) (by omega) (by omega) (by omega) ⟨mset_s, fun i u => ?_, ?_, ?_, fun i u => ?_, fun z => ?_⟩ (fun a y u1 u2 u3 => ?_) ?_
  · have u' : i < 1 := u
    have : i = 0 := by omega
    subst this
    rw [mset_n (by omega), mset_s]
    rfl
  · rw [mset_n (by omega), mset_n (by omega), mset_n (by omega), mset_n (by omega)]
    exact pv.2.1
  · rw [mset_n (by omega), mset_n (by omega), mset_s]
  · have : i = 0 := by omega
    subst this
    rw [mset_n (by omega), mset_n (by omega), mset_n (by omega), mset_s, h0]
  · exfalso
    have z' : (100000 : Nat) < 100000 := z
    omega
  · rw [mset_n (by omega), mset_n (by omega), mset_n (by omega), mset_n (by omega)]
    exact pf a y (by omega)
  · rw [mset_n (by omega), mset_n (by omega), mset_n (by omega), mset_n (by omega)]
    exact pv.1
