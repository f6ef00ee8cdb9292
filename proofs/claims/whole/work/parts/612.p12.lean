/-! the reference's body: the loop -/
theorem hPl1_n {g : Nat → Nat} {i : Nat} (hi : i ≠ 1) : hPl1 g i = g i := by
  unfold hPl1
  split
  · split
    · exact nst_n hi
    · split
      · exact nst_n hi
      · rfl
  · rfl
theorem hPl1_0 {g : Nat → Nat} (h : hPl1 g 1 = 0) : hPl1 g = g := by
  unfold hPl1 at h ⊢
  split
  · split
    · rename_i c1 c2
      rw [if_pos c1, if_pos c2, nst_s] at h
      omega
    · split
      · rename_i c1 c2 c3
        rw [if_pos c1, if_neg c2, if_pos c3, nst_s] at h
        omega
      · rfl
  · rfl
theorem BM_1 {M : mwM} {s q g : Nat → Nat} {k : Nat} (h : BM M s k q g) : BM M s k q (hPl1 g) := by
  unfold BM kdH at h ⊢
  rw [hPl1_n (show 5 ≠ 1 by omega), hPl1_n (show 4 ≠ 1 by omega), hPl1_n (show 17 ≠ 1 by omega), hPl1_n (show 14 ≠ 1 by omega), hPl1_n (show 10 ≠ 1 by omega), hPl1_n (show 12 ≠ 1 by omega), hPl1_n (show 13 ≠ 1 by omega), hPl1_n (show 11 ≠ 1 by omega)]
  exact h
theorem ES_5 {s p h o : Nat → Nat} {k : Nat} (hE : ES s k p h o) : h 5 < 600 ∧ h 4 < 200 ∧ k < 800 := by
  obtain ⟨⟨e1, e2, e3, e4, e5, e6, _⟩, h1, hend⟩ := hE
  obtain ⟨_, _, _, _, _, _, _, _, _, _, b2, b3, _, _⟩ := PI_b e1
  have l5 : h 5 < 600 := by
    by_cases y : h 17 < 100000
    · have := b2 y
      unfold sEnd at hend
      split at hend <;> omega
    · have := b3 (by omega)
      omega
  omega
theorem m_bstep {fu n K k b : Nat} {s p h o : Nat → Nat} {M : mwM} {L : mwL} {r : Int32 × Int32 × Int32 × Int32 × Int32 × Int32 × Int32 × mwM × mwL → Option (Int32 × mwM × mwL)} {Q : Int32 × mwM × mwL → Prop} (hfu : 20 ≤ fu) (hn : n < 7) (hk : k < K) (hK : K ≤ 1000) (hE : ES s k p h o) (hB : BM M s k p h) (hb : b < 2) (hs : s k = b) (hse : M 837 (1200 * n + k) = sI b) (l2 : h 2 < 2)
    (q1 : rBody b h ≠ 0 → ∀ M', bF0 M M' → Q (sI (rBody b h), M', L))
    (q2 : rBody b h = 0 → hBody b h 1 ≠ 0 → ∀ M', bF0 M M' → M' 821 45 = sI (k + 1) → BM M' s (k + 1) (pBody b p h) (hBody b h) → Q (-1, M', L))
    (q3 : rBody b h = 0 → hBody b h 1 = 0 → ∀ M', bF0 M M' → M' 821 45 = M 821 45 → BM M' s (k + 1) (pBody b p h) (hBody b h) → wq (r (sI (K - 1), sI (hBody b h 2), sI (hBody b h 3), sI (ckA (hBody b h)), sI (hBody b h 12), sI (hBody b h 13), sI (k + 1), M', L)) Q) :
    wq (fX12_bodyAnew_i48 fu (sI n) r (sI (K - 1)) (sI (h 2)) (sI (h 3)) (sI (ckA h)) (sI (h 12)) (sI (h 13)) (sI k) M L) Q := by
  obtain ⟨l5, l4, lk⟩ := ES_5 hE
  obtain ⟨⟨e1, e2, e3, e4, e5, e6, _⟩, h1, hend⟩ := hE
  obtain ⟨_, w12, w13, _, w17, _, _, _, _, _, b2, b3, b4, _⟩ := PI_b e1
  obtain ⟨m1, m2, m3, m4, m5, m6⟩ := hB
  unfold fX12_bodyAnew_i48
  rw [if_neg (show ¬ sI (K - 1) < sI k by rw [sI_lt (by omega) (by omega)]; omega), m_bitAt hn (by omega) hse, mb3_s, m_check m4 (by omega) hb, mb2_s]
  generalize hM1 : mset (mset M 852 k (sI b)) 821 41 (sI (k + 1)) = M1
  have pf : ∀ a y, ¬ (a = 852 ∧ y = k) → ¬ (a = 821 ∧ y = 41) → M1 a y = M a y := fun a y u1 u2 => by rw [← hM1, mset_n u2, mset_n u1]
  have p41 : M1 821 41 = sI (k + 1) := by rw [← hM1, mset_s]
  have pch : ∀ i, i < k + 1 → M1 852 i = sI (s i) := fun i u => by
    by_cases z : i = k
    · rw [z, ← hM1, mset_n (by omega), mset_s, hs]
    · rw [pf 852 i (by omega) (by omega)]
      exact m5 i (by omega)
  have bF1 : bF0 M M1 := fun a y u1 u2 u3 => pf a y (by omega) (by omega)
  have p34 : M1 821 34 = sI (h 5) := by rw [pf 821 34 (by omega) (by omega)]; exact m1
  have p46 : M1 821 46 = sI (h 4) := by rw [pf 821 46 (by omega) (by omega)]; exact m3
  have ppl : ∀ i, i < h 5 → M1 848 i = sI (p i) := fun i u => by rw [pf 848 i (by omega) (by omega)]; exact m2 i u
  have pfd : h 17 < 100000 → M1 821 42 = sI (kdH h) ∧ M1 821 43 = sI (h 14) ∧ M1 821 44 = sI (h 10) := fun z => by
    rw [pf 821 42 (by omega) (by omega), pf 821 43 (by omega) (by omega), pf 821 44 (by omega) (by omega)]
    exact m6 z
  unfold rBody at q1 q2 q3
  unfold hBody pBody at q2 q3
  by_cases c1 : h 3 = 5
  · rw [if_pos c1] at q1
    rw [if_pos c1, if_pos c1, if_pos c1] at q2 q3
    rw [if_pos (show sI (h 3) = 5 by rw [c1]; rfl)]
    by_cases c2 : b = h 2
    · rw [if_pos c2] at q1
      rw [if_pos (show sI b = sI (h 2) by rw [c2])]
      exact wq_some (q1 (by omega) M1 bF1)
    · rw [if_neg c2] at q1 q2 q3
      rw [if_neg (show ¬ sI b = sI (h 2) by rw [sI_eq (by omega) (by omega)]; exact c2)]
      unfold fX12_bodyAnew_b390
      simp only [mlet]
      rw [p46, sI_1, mset_n (show ¬ (821 = 821 ∧ 34 = 46) by omega), p34, sI_adl, sI_1]
      have lck : ckA h < 50000 := by
        unfold ckA
        split
        · have := b2 (by assumption)
          omega
        · omega
      have eqv : h 5 = ckA h + 15 ↔ h 5 = sEnd h := by
        unfold sEnd ckA
        by_cases y : h 13 = 1
        · have hlt : h 5 < h 17 := by
            unfold sEnd at hend
            rw [if_pos y] at hend
            omega
          rw [if_pos y]
          by_cases z : h 17 < 100000
          · rw [if_pos z]; omega
          · rw [if_neg z]; omega
        · rw [if_neg y]
          by_cases z : h 17 < 100000
          · rw [if_pos z]
          · rw [if_neg z]; omega
      have bm : ∀ X, BM (mset M1 821 46 (sI (h 4 + 1))) s (k + 1) p (nst (hStuff b h) 1 X) ∧ BM (mset M1 821 46 (sI (h 4 + 1))) s (k + 1) p (hStuff b h) := fun X => by
        have : BM (mset M1 821 46 (sI (h 4 + 1))) s (k + 1) p (hStuff b h) := by
          refine ⟨by rw [mset_n (by omega)]; exact p34, fun i u => by rw [mset_n (by omega)]; exact ppl i u, by rw [mset_s]; rfl, by rw [mset_n (by omega)]; exact p41, fun i u => by rw [mset_n (by omega)]; exact pch i u, fun z => ?_⟩
          rw [mset_n (by omega), mset_n (by omega), mset_n (by omega)]
          exact pfd z
        exact ⟨this, this⟩
      by_cases c3 : h 5 = sEnd h
      · rw [if_pos c3] at q2 q3
        rw [if_pos (show sI (h 5) = sI (ckA h + 15) by rw [← eqv.mpr c3])]
        refine wq_some (q2 rfl (by rw [nst_s]; omega) _ (fun a y u1 u2 u3 => by rw [mset_n (by omega), mset_n (by omega)]; exact bF1 a y u1 u2 u3) mset_s ?_)
        obtain ⟨t1, t2, t3, t4, t5, t6⟩ := (bm 2).1
        refine ⟨by rw [mset_n (by omega)]; exact t1, fun i u => by rw [mset_n (by omega)]; exact t2 i u, by rw [mset_n (by omega)]; exact t3, by rw [mset_n (by omega)]; exact t4, fun i u => by rw [mset_n (by omega)]; exact t5 i u, fun z => ?_⟩
        rw [mset_n (by omega), mset_n (by omega), mset_n (by omega)]
        exact t6 z
      · rw [if_neg c3] at q2 q3
        rw [if_neg (show ¬ sI (h 5) = sI (ckA h + 15) by rw [sI_eq (by omega) (by omega)]; exact fun z => c3 (eqv.mp z))]
        refine q3 rfl h1 _ (fun a y u1 u2 u3 => by rw [mset_n (by omega)]; exact bF1 a y u1 u2 u3) (by rw [mset_n (by omega), pf 821 45 (by omega) (by omega)]) (bm 0).2
  · rw [if_neg c1] at q1
    rw [if_neg c1, if_neg c1, if_neg c1] at q2 q3
    rw [if_neg (show ¬ sI (h 3) = 5 by rw [sI_eql (by omega) (by decide)]; exact c1)]
    obtain ⟨g1, g2, g3, g4, g5, _⟩ := hPl0_n (b := b) (h := h)
    have both : wq (fX12_bodyAnew_b135 fu (sI n) r (sI (K - 1)) (sI (ckA h)) (sI (h 12)) (sI (h 13)) (sI k) (sI b) (sI (hPl0 b h 3)) M1 L) Q := by
      refine m_bplain hfu e1 hb l5 rfl (by rw [g3]; split <;> omega) p34 ppl p46 p41 pch pfd h1 (fun z M' hF => ?_) (fun z w M' hF h45 hB => ?_) (fun z w M' hF h45 hB => ?_)
      · unfold fmE at z
        rw [if_pos z] at q1
        exact q1 (by omega) M' (bF0_t bF1 hF)
      · unfold fmE at z
        rw [if_neg z] at q2
        exact q2 rfl w M' (bF0_t bF1 hF) h45 (BM_1 hB)
      · unfold fmE at z
        rw [if_neg z] at q3
        have := q3 rfl w M' (bF0_t bF1 hF) (by rw [h45, pf 821 45 (by omega) (by omega)]) (BM_1 hB)
        rw [hPl1_0 w, g2] at this
        exact this
    rw [g3] at both
    by_cases c2 : b = h 2
    · rw [if_pos (show sI b = sI (h 2) by rw [c2]), sI_1]
      rw [if_pos c2] at both
      exact both
    · rw [if_neg (show ¬ sI b = sI (h 2) by rw [sI_eq (by omega) (by omega)]; exact c2)]
      rw [if_neg c2] at both
      exact both
theorem ckA_00 : ckA h00 = 20000 := rfl
theorem m_bodyAnew {fu n K E : Nat} {s o0 : Nat → Nat} {M : mwM} {L : mwL} {Q : Int32 × mwM × mwL → Prop} (hfu : 1300 ≤ fu) (hn : n < 7) (hK1 : 1 ≤ K) (hK : K ≤ 1000) (h836 : M 836 n = sI K) (hse : ∀ i, i < K → M 837 (1200 * n + i) = sI (s i) ∧ s i < 2) (h0 : s 0 = 0) (hE2 : 2 ≤ E)
    (hES : ∀ j, 1 ≤ j → j < E → j ≤ K → ES s j (pq s j) (hq s j) (oq s o0 j)) (hr : ∀ j, 1 ≤ j → j + 1 < E → j < K → rBody (s j) (hq s j) = 0) (hst : E ≤ K → rBody (s (E - 1)) (hq s (E - 1)) = 0 → hq s E 1 ≠ 0)
    (q1 : E ≤ K → rBody (s (E - 1)) (hq s (E - 1)) ≠ 0 → ∀ M', bF0 M M' → Q (sI (rBody (s (E - 1)) (hq s (E - 1))), M', L))
    (q2 : E ≤ K → rBody (s (E - 1)) (hq s (E - 1)) = 0 → ∀ M', bF0 M M' → M' 821 45 = sI E → BM M' s E (pq s E) (hq s E) → Q (-1, M', L))
    (q3 : K < E → ∀ M', bF0 M M' → M' 821 45 = -1 → Q (-1, M', L)) : wq (DX12_bodyAnew fu (sI n) M L) Q := by
  have nxt : ∀ j, 1 ≤ j → j < E → j ≤ K → hq s (j + 1) = hBody (s j) (hq s j) ∧ pq s (j + 1) = pBody (s j) (pq s j) (hq s j) := fun j u1 u2 u3 => by
    have e2 := (hES j u1 u2 u3).2.1
    rw [hq_s u1, pq_s u1]
    constructor
    · unfold hAll
      rw [if_neg (by omega), if_neg (by omega)]
    · exact if_pos e2
  have loop : ∀ (m k f : Nat) (X : mwM), k + m = K → m < f → 1 ≤ k → k < E → BM X s k (pq s k) (hq s k) → bF0 M X → X 821 45 = -1 → wq (fX12_bodyAnew_h48 fu (sI n) f (sI (K - 1), sI (hq s k 2), sI (hq s k 3), sI (ckA (hq s k)), sI (hq s k 12), sI (hq s k 13), sI k, X, L)) Q := by
    intro m
    induction m with
    | zero =>
      intro k f X hk hf1 hk1 hkE hB hF h45
      obtain ⟨g, rfl⟩ : ∃ g, f = g + 1 := ⟨f - 1, by omega⟩
      have : k = K := by omega
      subst this
      unfold fX12_bodyAnew_h48
      rw [mloop_S]
      show wq (fX12_bodyAnew_i48 fu (sI n) _ (sI (k - 1)) (sI (hq s k 2)) (sI (hq s k 3)) (sI (ckA (hq s k))) (sI (hq s k 12)) (sI (hq s k 13)) (sI k) X L) Q
      unfold fX12_bodyAnew_i48
      rw [if_pos (show sI (k - 1) < sI k by rw [sI_lt (by omega) (by omega)]; omega)]
      exact wq_some (q3 (by omega) X hF h45)
    | succ m ih =>
      intro k f X hk hf1 hk1 hkE hB hF h45
      obtain ⟨g, rfl⟩ : ∃ g, f = g + 1 := ⟨f - 1, by omega⟩
      unfold fX12_bodyAnew_h48
      rw [mloop_S]
      show wq (fX12_bodyAnew_i48 fu (sI n) (fX12_bodyAnew_h48 fu (sI n) g) (sI (K - 1)) (sI (hq s k 2)) (sI (hq s k 3)) (sI (ckA (hq s k))) (sI (hq s k 12)) (sI (hq s k 13)) (sI k) X L) Q
      have hEk := hES k hk1 hkE (by omega)
      obtain ⟨nx1, nx2⟩ := nxt k hk1 hkE (by omega)
      have l2 : hq s k 2 < 2 := by
        rw [hEk.1.2.1]
        exact (hse _ (by omega)).2
      refine m_bstep (o := oq s o0 k) (by omega) hn (by omega) hK hEk hB (hse k (by omega)).2 rfl (by rw [hF 837 _ (by omega) (by omega) (by omega)]; exact (hse k (by omega)).1) l2 (fun z M' hF' => ?_) (fun z w M' hF' h45' hB' => ?_) (fun z w M' hF' h45' hB' => ?_)
      · have ek : E = k + 1 := by
          by_cases y : k + 1 < E
          · exact absurd (hr k hk1 y (by omega)) z
          · omega
        have := q1 (by omega)
        rw [ek, Nat.add_sub_cancel] at this
        exact this z M' (bF0_t hF hF')
      · have ek : E = k + 1 := by
          by_cases y : k + 1 < E
          · exfalso
            have := (hES (k + 1) (by omega) y (by omega)).2.1
            rw [nx1] at this
            exact w this
          · omega
        have := q2 (by omega)
        rw [ek, Nat.add_sub_cancel] at this
        rw [← nx1, ← nx2] at hB'
        exact this z M' (bF0_t hF hF') h45' hB'
      · have ek : k + 1 < E := by
          by_cases y : k + 1 < E
          · exact y
          · exfalso
            have e : E = k + 1 := by omega
            have := hst (by omega)
            rw [e, Nat.add_sub_cancel] at this
            have := this z
            rw [nx1] at this
            exact this w
        rw [← nx1, ← nx2] at hB'
        rw [← nx1]
        exact ih (k + 1) g M' (by omega) (by omega) (by omega) ek hB' (bF0_t hF hF') (by rw [h45', h45])
  unfold DX12_bodyAnew
  simp only [mlet]
  rw [mck_s (by omega) (by omega), sI_nn (by omega), h836, show sI K - 1 = sI (K - 1) from sI_sub (b := 1) (by omega)]
  generalize hM1 : mset (mset (mset (mset M 821 45 (-1)) 821 46 0) 821 34 0) 821 41 0 = M1
  have pf : ∀ a y, ¬ (a = 821 ∧ (y = 45 ∨ y = 46 ∨ y = 34 ∨ y = 41)) → M1 a y = M a y := fun a y u => by
    rw [← hM1]
    simp (disch := omega) only [mset_n]
  have pv : M1 821 45 = -1 ∧ M1 821 46 = sI 0 ∧ M1 821 34 = sI 0 ∧ M1 821 41 = sI 0 := by
    rw [← hM1]
    simp (disch := omega) only [mset_n, mset_s]
    exact ⟨(by first | trivial | rfl), (by first | trivial | rfl), (by first | trivial | rfl), (by first | trivial | rfl)⟩
  obtain ⟨f, rfl⟩ : ∃ f, fu = f + 1 := ⟨fu - 1, by omega⟩
  unfold fX12_bodyAnew_h48
  rw [mloop_S]
  show wq (fX12_bodyAnew_i48 (f + 1) (sI n) (fX12_bodyAnew_h48 (f + 1) (sI n) f) (sI (K - 1)) 1 0 20000 0 0 0 M1 L) Q
  have b0 := hse 0 (by omega)
  rw [h0] at b0
  have bt : DX12_bitAt (f + 1) (sI n) 0 M1 L = some (sI 0, M1, L) := m_bitAt (k := 0) hn (by omega) (by rw [pf 837 _ (by omega)]; exact b0.1)
  unfold fX12_bodyAnew_i48
  rw [if_neg (show ¬ sI (K - 1) < 0 by rw [sI_ltl (by omega) (by decide)]; omega), bt, mb3_s, m_check pv.2.2.2 (by omega) (by omega), mb2_s, if_neg (show ¬ (0 : Int32) = 5 by decide), if_neg (show ¬ sI 0 = 1 by decide)]
  unfold fX12_bodyAnew_b135 fX12_bodyAnew_b182 fX12_bodyAnew_b184 fX12_bodyAnew_b196 fX12_bodyAnew_b229 fX12_bodyAnew_b231 fX12_bodyAnew_b255 fX12_bodyAnew_b278 fX12_bodyAnew_b328 fX12_bodyAnew_b372 fX12_bodyAnew_b373 fX12_bodyAnew_b390
  simp only [mlet]
  have r34 : mset (mset M1 852 0 (sI 0)) 821 41 (sI (0 + 1)) 821 34 = sI 0 := by rw [mset_n (by omega), mset_n (by omega)]; exact pv.2.2.1
  rw [r34, mck_in (show vp_in (sI 0) 700 from sI_in (by omega) (by omega)), sI_nn (by omega), nb2 0 (by omega), mset_n (show ¬ (821 = 848 ∧ 34 = 0) by omega), r34, mset_s]
  simp (decide := true) only [ite_true, ite_false]
  refine loop (K - 1) 1 f _ (by omega) (by omega) (by omega) (by omega) ⟨mset_s, fun i u => ?_, ?_, ?_, fun i u => ?_, fun z => ?_⟩ (fun a y u1 u2 u3 => ?_) ?_
  · have u' : i < 1 := u
    have : i = 0 := by omega
    subst this
    rw [mset_n (by omega), mset_s]
    rfl
  · rw [mset_n (by omega), mset_n (by omega), mset_n (by omega), mset_n (by omega)]
    exact pv.2.1
  · rw [mset_n (by omega), mset_n (by omega), mset_s]
  · have : i = 0 := by omega
    subst this
    rw [mset_n (by omega), mset_n (by omega), mset_n (by omega), mset_s, h0]
  · exfalso
    have z' : (100000 : Nat) < 100000 := z
    omega
  · rw [mset_n (by omega), mset_n (by omega), mset_n (by omega), mset_n (by omega)]
    exact pf a y (by omega)
  · rw [mset_n (by omega), mset_n (by omega), mset_n (by omega), mset_n (by omega)]
    exact pv.1
/-! the reference's body, as it is remembered -/
def z0 : Nat → Nat := fun _ => 0
def HV (s : Nat → Nat) (K E : Nat) : Prop := 2 ≤ E ∧ E ≤ K + 1 ∧ (∀ j, 1 ≤ j → j < E → j ≤ K → ES s j (pq s j) (hq s j) (oq s z0 j)) ∧ (∀ j, 1 ≤ j → j + 1 < E → j < K → rBody (s j) (hq s j) = 0) ∧ (E ≤ K → rBody (s (E - 1)) (hq s (E - 1)) = 0 → hq s E 1 ≠ 0)
theorem rAll_0 {b : Nat} {h : Nat → Nat} (h1 : h 1 = 0) : rAll b h = rBody b h ∧ hAll b h = hBody b h := by
  unfold rAll hAll
  rw [if_neg (by omega), if_neg (by omega), if_neg (by omega), if_neg (by omega)]
  exact ⟨rfl, rfl⟩
theorem HV_ex {s : Nat → Nat} {K : Nat} (hK : 1 ≤ K) (h0 : s 0 = 0) (hs : ∀ i, i < K → s i < 2) (hg : Gd s (K - 1)) : ∃ E, HV s K E := by
  by_cases k1 : K = 1
  · subst k1
    refine ⟨2, by omega, by omega, fun j u1 u2 u3 => ?_, fun j u1 u2 u3 => by omega, fun u => by omega⟩
    have : j = 1 := by omega
    subst this
    exact ES_0 h0 rfl
  · obtain ⟨e, b1, b2, b3, b4⟩ := BE_K z0 (K - 1) (by omega) h0 (fun i u => hs i (by omega)) hg
    have rz : ∀ j, 1 ≤ j → j < K - 1 → j < e → rBody (s j) (hq s j) = 0 := fun j u1 u2 u3 => by
      have e1 := b3 j u1 (by omega) u3
      have := hg j u1 u2
      rw [(rAll_0 e1.2.1).1] at this
      rcases this with z | z
      · exact z
      · exact absurd z rBody_6
    by_cases ce : e ≤ K - 1
    · refine ⟨e, b1, by omega, fun j u1 u2 u3 => b3 j u1 (by omega) u2, fun j u1 u2 u3 => rz j u1 (by omega) (by omega), fun _ _ => ?_⟩
      have := (b4 0 (by omega)).1
      have hd := this.1.2
      intro z
      omega
    · have e1 := b3 (K - 1) (by omega) (by omega) (by omega)
      have ek : e = K := by omega
      by_cases cr : rBody (s (K - 1)) (hq s (K - 1)) = 0
      · obtain ⟨q1, q2⟩ := ES_step e1 (by omega) (hs (K - 1) (by omega)) rfl cr
        have hh : hq s K = hBody (s (K - 1)) (hq s (K - 1)) := by
          have := hq_s (s := s) (K := K - 1) (by omega)
          rw [show K - 1 + 1 = K by omega] at this
          rw [this, (rAll_0 e1.2.1).2]
        have pp : pq s K = pBody (s (K - 1)) (pq s (K - 1)) (hq s (K - 1)) := by
          have := pq_s (s := s) (K := K - 1) (by omega)
          rw [show K - 1 + 1 = K by omega] at this
          rw [this]
          exact if_pos e1.2.1
        have oo : oq s z0 K = oBody (s (K - 1)) (hq s (K - 1)) (oq s z0 (K - 1)) := by
          have := oq_s (s := s) (o0 := z0) (K := K - 1) (by omega)
          rw [show K - 1 + 1 = K by omega] at this
          rw [this]
          exact if_pos e1.2.1
        rw [← hh, ← pp, ← oo, show K - 1 + 1 = K by omega] at q1 q2
        by_cases cs : hq s K 1 = 0
        · refine ⟨K + 1, by omega, by omega, fun j u1 u2 u3 => ?_, fun j u1 u2 u3 => ?_, fun u => by omega⟩
          · by_cases z : j = K
            · rw [z]; exact q1 cs
            · exact b3 j u1 (by omega) (by omega)
          · by_cases z : j = K - 1
            · rw [z]; exact cr
            · exact rz j u1 (by omega) (by omega)
        · refine ⟨K, by omega, by omega, fun j u1 u2 u3 => b3 j u1 (by omega) (by omega), fun j u1 u2 u3 => rz j u1 (by omega) (by omega), fun _ _ => cs⟩
      · refine ⟨K, by omega, by omega, fun j u1 u2 u3 => b3 j u1 (by omega) (by omega), fun j u1 u2 u3 => rz j u1 (by omega) (by omega), fun _ z => absurd z cr⟩
theorem HV_u1 {s : Nat → Nat} {K E F : Nat} (h1 : HV s K E) (h2 : HV s K F) : ¬ E < F := by
  intro hlt
  obtain ⟨a1, a2, a3, a4, a5⟩ := h1
  obtain ⟨b1, b2, b3, b4, b5⟩ := h2
  have r := b4 (E - 1) (by omega) (by omega) (by omega)
  have := a5 (by omega) r
  exact this (b3 E (by omega) hlt (by omega)).2.1
theorem HV_u {s : Nat → Nat} {K E F : Nat} (h1 : HV s K E) (h2 : HV s K F) : E = F := by
  have := HV_u1 h1 h2
  have := HV_u1 h2 h1
  omega
/-- only the bits count -/
theorem hq_c {s t o0 : Nat → Nat} : ∀ j, (∀ i, i < j → t i = s i) → hq t j = hq s j ∧ pq t j = pq s j ∧ oq t o0 j = oq s o0 j := by
  intro j
  induction j with
  | zero => intro _; exact ⟨rfl, rfl, rfl⟩
  | succ j ih =>
    intro h
    obtain ⟨i1, i2, i3⟩ := ih (fun i u => h i (by omega))
    by_cases c : j = 0
    · subst c
      exact ⟨rfl, rfl, rfl⟩
    · rw [hq_s (by omega), hq_s (by omega), pq_s (by omega), pq_s (by omega), oq_s (by omega), oq_s (by omega), i1, i2, i3, h j (by omega)]
      exact ⟨rfl, rfl, rfl⟩
def BMx (M : mwM) (s : Nat → Nat) (k : Nat) (p h : Nat → Nat) : Prop := M 821 34 = sI (h 5) ∧ (∀ i, i < h 5 → M 848 i = sI (p i)) ∧ M 821 46 = sI (h 4) ∧ M 821 42 = sI (kdH h) ∧ M 821 43 = sI (h 14) ∧ M 821 44 = sI (h 10) ∧ (h 13 = 1 → M 821 41 = sI k ∧ ∀ i, i < k → M 852 i = sI (s i))
def BR (M : mwM) (res : Int32) (s : Nat → Nat) (K E : Nat) : Prop :=
  (E ≤ K ∧ rBody (s (E - 1)) (hq s (E - 1)) ≠ 0 ∧ res = sI (rBody (s (E - 1)) (hq s (E - 1)))) ∨
  (E ≤ K ∧ rBody (s (E - 1)) (hq s (E - 1)) = 0 ∧ res = -1 ∧ M 821 45 = sI E ∧ BMx M s E (pq s E) (hq s E)) ∨
  (K < E ∧ res = -1 ∧ M 821 45 = -1)
/-- what is remembered, of a row of bits that may be another node's -/
def CaV (s : Nat → Nat) (K E : Nat) : Prop := 1 ≤ K ∧ K ≤ 1000 ∧ (∀ i, i < K → s i < 2) ∧ HV s K E
def CA (M : mwM) : Prop := M 821 48 = -1 ∨ ∃ (t : Nat → Nat) (kc E : Nat), CaV t kc E ∧ M 821 48 = sI kc ∧ (∀ i, i < kc → M 853 i = sI (t i)) ∧ BR M (M 821 49) t kc E
def bF (M M' : mwM) : Prop := ∀ a y, ¬ (a = 821 ∧ (y = 34 ∨ (41 ≤ y ∧ y ≤ 46) ∨ y = 48 ∨ y = 49)) → a ≠ 848 → a ≠ 852 → a ≠ 853 → M' a y = M a y
theorem bF_t {A B C : mwM} (h1 : bF A B) (h2 : bF B C) : bF A C := fun a y u1 u2 u3 u4 => (h2 a y u1 u2 u3 u4).trans (h1 a y u1 u2 u3 u4)
theorem bF_0 {A B : mwM} (h1 : bF0 A B) : bF A B := fun a y u1 u2 u3 _ => h1 a y (by omega) u2 u3
theorem BR_c {M : mwM} {res : Int32} {s t : Nat → Nat} {K E : Nat} (hE : 2 ≤ E) (hE2 : E ≤ K + 1) (h : ∀ i, i < K → t i = s i) (hB : BR M res t K E) : BR M res s K E := by
  unfold BR at hB ⊢
  by_cases c : E ≤ K
  · obtain ⟨i1, i2, _⟩ := hq_c (s := s) (t := t) (o0 := z0) (E - 1) (fun i u => h i (by omega))
    obtain ⟨i4, i5, _⟩ := hq_c (s := s) (t := t) (o0 := z0) E (fun i u => h i (by omega))
    rw [← i1, ← i4, ← i5, ← h (E - 1) (by omega)]
    rcases hB with z | z | z
    · exact Or.inl z
    · refine Or.inr (Or.inl ⟨z.1, z.2.1, z.2.2.1, z.2.2.2.1, ?_⟩)
      obtain ⟨m1, m2, m3, m4, m5, m6, m7⟩ := z.2.2.2.2
      refine ⟨m1, m2, m3, m4, m5, m6, fun w => ⟨(m7 w).1, fun i u => ?_⟩⟩
      rw [← h i (by omega)]
      exact (m7 w).2 i u
    · omega
  · rcases hB with z | z | z
    · omega
    · omega
    · exact Or.inr (Or.inr z)
theorem HV_c {s t : Nat → Nat} {K E : Nat} (h : ∀ i, i < K → t i = s i) (hV : HV t K E) : HV s K E := by
  obtain ⟨a1, a2, a3, a4, a5⟩ := hV
  have c : ∀ j, j ≤ K → hq t j = hq s j ∧ pq t j = pq s j ∧ oq t z0 j = oq s z0 j := fun j u => hq_c j (fun i w => h i (by omega))
  have es : ∀ j, j ≤ K → 1 ≤ j → ES t j (pq t j) (hq t j) (oq t z0 j) → ES s j (pq s j) (hq s j) (oq s z0 j) := fun j u u1 hx => by
    obtain ⟨c1, c2, c3⟩ := c j u
    rw [← c1, ← c2, ← c3]
    obtain ⟨⟨e1, e2, e3, e4, e5, e6, e7, e8, e9, e10⟩, r⟩ := hx
    refine ⟨⟨e1, by rw [e2, h _ (by omega)], e3, e4, e5, e6, e7, e8, fun z => ?_, e10⟩, r⟩
    obtain ⟨y1, y2⟩ := e9 z
    rw [y1, y2]
    exact ⟨(crcF_c _ (fun i w => (h i (by omega)).symm)).symm, (crcF_c _ (fun i w => (h i (by omega)).symm)).symm⟩
  refine ⟨a1, a2, fun j u1 u2 u3 => es j u3 u1 (a3 j u1 u2 u3), fun j u1 u2 u3 => ?_, fun u1 u2 => ?_⟩
  · rw [← (c j (by omega)).1, ← h j u3]
    exact a4 j u1 u2 u3
  · rw [← (c (E - 1) (by omega)).1, ← h (E - 1) (by omega)] at u2
    rw [← (c E u1).1]
    exact a5 u1 u2
theorem m_bodyA {fu n K E : Nat} {s : Nat → Nat} {M : mwM} {L : mwL} (hfu : 1300 ≤ fu) (hn : n < 7) (h836 : M 836 n = sI K) (hse : ∀ i, i < K → M 837 (1200 * n + i) = sI (s i)) (h0 : s 0 = 0) (hV : CaV s K E) : wq (DX12_bodyAnew fu (sI n) M L) (fun z => z.2.2 = L ∧ bF0 M z.2.1 ∧ BR z.2.1 z.1 s K E) := by
  obtain ⟨k1, k2, k3, a1, a2, a3, a4, a5⟩ := hV
  refine m_bodyAnew (E := E) hfu hn k1 k2 h836 (fun i u => ⟨hse i u, k3 i u⟩) h0 a1 a3 a4 a5 (fun u z M' hF => ?_) (fun u z M' hF h45 hB => ?_) (fun u M' hF h45 => ?_)
  · exact ⟨rfl, hF, Or.inl ⟨u, z, rfl⟩⟩
  · refine ⟨rfl, hF, Or.inr (Or.inl ⟨u, z, rfl, h45, ?_⟩)⟩
    obtain ⟨m1, m2, m3, m4, m5, m6⟩ := hB
    have k17 : hq s E 17 < 100000 := by
      -- ended, so its ends are known
      have e1 := a3 (E - 1) (by omega) (by omega) (by omega)
      have hs1 := a5 u z
      obtain ⟨q1, q2⟩ := ES_step e1 (by omega) (k3 (E - 1) (by omega)) rfl z
      have hh : hq s E = hBody (s (E - 1)) (hq s (E - 1)) := by
        have := hq_s (s := s) (K := E - 1) (by omega)
        rw [show E - 1 + 1 = E by omega] at this
        rw [this, (rAll_0 e1.2.1).2]
      rw [← hh] at q2
      obtain ⟨⟨x1, _⟩, hd⟩ := q2 hs1
      obtain ⟨_, _, _, _, _, _, _, _, _, _, b2, b3, _, _⟩ := PI_b x1
      by_cases y : hq s E 17 < 100000
      · exact y
      · have := b3 (by omega)
        omega
    obtain ⟨f1, f2, f3⟩ := m6 k17
    exact ⟨m1, m2, m3, f1, f2, f3, fun _ => ⟨m4, m5⟩⟩
  · exact ⟨rfl, hF, Or.inr (Or.inr ⟨u, rfl, h45⟩)⟩
theorem BR_fr {M M' : mwM} {res : Int32} {s : Nat → Nat} {K E : Nat} (hB : BR M res s K E) (hf : ∀ a y, (a = 821 ∧ (y = 34 ∨ (41 ≤ y ∧ y ≤ 46))) ∨ a = 848 ∨ a = 852 → M' a y = M a y) : BR M' res s K E := by
  rcases hB with z | z | z
  · exact Or.inl z
  · refine Or.inr (Or.inl ⟨z.1, z.2.1, z.2.2.1, by rw [hf 821 45 (by omega)]; exact z.2.2.2.1, ?_⟩)
    obtain ⟨m1, m2, m3, m4, m5, m6, m7⟩ := z.2.2.2.2
    refine ⟨?_, fun i u => ?_, ?_, ?_, ?_, ?_, fun w => ⟨?_, fun i u => ?_⟩⟩
    · rw [hf 821 34 (by omega)]; exact m1
    · rw [hf 848 i (by omega)]; exact m2 i u
    · rw [hf 821 46 (by omega)]; exact m3
    · rw [hf 821 42 (by omega)]; exact m4
    · rw [hf 821 43 (by omega)]; exact m5
    · rw [hf 821 44 (by omega)]; exact m6
    · rw [hf 821 41 (by omega)]; exact (m7 w).1
    · rw [hf 852 i (by omega)]; exact (m7 w).2 i u
  · exact Or.inr (Or.inr ⟨z.1, z.2.1, by rw [hf 821 45 (by omega)]; exact z.2.2⟩)
/-- the body, and that it is remembered -/
def CAs (M : mwM) (s : Nat → Nat) (K E : Nat) : Prop := M 821 48 = sI K ∧ (∀ i, i < K → M 853 i = sI (s i)) ∧ BR M (M 821 49) s K E
theorem m_body {fu n K E : Nat} {s : Nat → Nat} {M : mwM} {L : mwL} (hfu : 1300 ≤ fu) (hn : n < 7) (h836 : M 836 n = sI K) (hse : ∀ i, i < K → M 837 (1200 * n + i) = sI (s i)) (h0 : s 0 = 0) (hV : CaV s K E) (hC : CA M) : wq (DX12_body fu (sI n) M L) (fun z => z.2.2 = L ∧ bF M z.2.1 ∧ CAs z.2.1 s K E ∧ z.2.1 821 49 = z.1) := by
  have hV' := hV
  obtain ⟨k1, k2, k3, a1, a2, a3, a4, a5⟩ := hV'
  unfold DX12_body fX12_body_b18
  rw [mck_s (by omega) (by omega), sI_nn (by omega), h836]
  -- anew
  have anew : wq (fX12_body_b66 fu (sI n) 0 M L) (fun z => z.2.2 = L ∧ bF M z.2.1 ∧ CAs z.2.1 s K E ∧ z.2.1 821 49 = z.1) := by
    unfold fX12_body_b66
    rw [if_pos rfl]
    refine wq_b3 (m_bodyA hfu hn h836 hse h0 hV) ?_
    rintro r M1 L1 ⟨y1, y2, y3⟩
    dsimp only at y1 y2 y3
    subst y1
    simp only [mlet]
    rw [mck_s (by omega) (by omega), sI_nn (by omega), mset_n (show ¬ (836 = 821 ∧ n = 49) by omega), y2 836 n (by omega) (by omega) (by omega), h836]
    generalize hM2 : mset (mset M1 821 49 r) 821 48 (sI K) = M2
    have pf : ∀ a y, ¬ (a = 821 ∧ (y = 48 ∨ y = 49)) → M2 a y = M1 a y := fun a y u => by rw [← hM2, mset_n (by omega), mset_n (by omega)]
    have p48 : M2 821 48 = sI K ∧ M2 821 49 = r := by
      rw [← hM2]
      refine ⟨mset_s, ?_⟩
      rw [mset_n (by omega), mset_s]
    refine wq_for (body := fun f z => fX12_body_i96 fu (sI n) f z.1 z.2.1 z.2.2) (fun i (x : mwM) => (sI i, x, L1)) (fun i x => (∀ j, j < i → x 853 j = sI (s j)) ∧ ∀ a y, a ≠ 853 → x a y = M2 a y) K ?_ ?_ K 0 M2 fu (by omega) (by omega) ⟨fun j u => by omega, fun _ _ _ => rfl⟩
    · intro i x f hi ⟨x1, x2⟩ ih
      show wq (fX12_body_i96 fu (sI n) f (sI i) x L1) _
      unfold fX12_body_i96
      rw [x2 821 48 (by omega), p48.1, if_neg (by rw [sI_le (by omega) (by omega)]; omega), sI_lml, sI_add, mck_s (by omega) (by omega), mck_s (by omega) (by omega), sI_nn (by omega), sI_nn (by omega), x2 837 _ (by omega), pf 837 _ (by omega), y2 837 _ (by omega) (by omega) (by omega), hse i hi, nb2' _ (k3 i hi)]
      simp only [mlet]
      rw [sI_1]
      refine ih _ ⟨fun j u => ?_, fun a y u => ?_⟩
      · by_cases q : j = i
        · rw [q, mset_s]
        · rw [mset_n (by omega)]; exact x1 j (by omega)
      · rw [mset_n (by omega)]; exact x2 a y u
    · intro x f ⟨x1, x2⟩
      show wq (fX12_body_i96 fu (sI n) f (sI K) x L1) _
      unfold fX12_body_i96
      rw [x2 821 48 (by omega), p48.1, if_pos (by rw [sI_le (by omega) (by omega)]; omega), x2 821 49 (by omega), p48.2]
      refine wq_some ⟨rfl, fun a y u1 u2 u3 u4 => ?_, ⟨?_, x1, ?_⟩, ?_⟩
      · dsimp only
        rw [x2 a y u4, pf a y (by omega), y2 a y (by omega) u2 u3]
      · dsimp only
        rw [x2 821 48 (by omega), p48.1]
      · dsimp only
        rw [x2 821 49 (by omega), p48.2]
        exact BR_fr y3 (fun a y u => by rw [x2 a y (by omega), pf a y (by omega)])
      · dsimp only
        rw [x2 821 49 (by omega), p48.2]
  -- not the same
  have no : ∀ f, 0 < f → wq (fX12_body_h21 fu (sI n) f (0, 0, M, L)) (fun z => z.2.2 = L ∧ bF M z.2.1 ∧ CAs z.2.1 s K E ∧ z.2.1 821 49 = z.1) := by
    intro f hf
    obtain ⟨g, rfl⟩ : ∃ g, f = g + 1 := ⟨f - 1, by omega⟩
    unfold fX12_body_h21
    rw [mloop_S]
    show wq (fX12_body_i21 fu (sI n) _ 0 0 M L) _
    unfold fX12_body_i21
    rw [if_pos (show (0 : Int32) = 0 from rfl)]
    by_cases c : M 821 48 ≤ 0
    · rw [if_pos c]; exact anew
    · rw [if_neg c]; exact anew
  rcases hC with hC | ⟨t, kc, F, ⟨t1, t2, t3, t4⟩, c1, c2, c3⟩
  · rw [hC, if_neg (sI_m1n (by omega))]
    exact no fu (by omega)
  · rw [c1]
    by_cases ck : kc = K
    · subst ck
      rw [if_pos rfl]
      -- bit by bit
      have key : ∀ (m i f : Nat), i + m = kc → m + 1 < f → (∀ j, j < i → t j = s j) → wq (fX12_body_h21 fu (sI n) f (1, sI i, M, L)) (fun z => z.2.2 = L ∧ bF M z.2.1 ∧ CAs z.2.1 s kc E ∧ z.2.1 821 49 = z.1) := by
        intro m
        induction m with
        | zero =>
          intro i f hi hf1 hj
          obtain ⟨g, rfl⟩ : ∃ g, f = g + 1 := ⟨f - 1, by omega⟩
          have : i = kc := by omega
          subst this
          unfold fX12_body_h21
          rw [mloop_S]
          show wq (fX12_body_i21 fu (sI n) _ 1 (sI i) M L) _
          unfold fX12_body_i21 fX12_body_b66
          rw [c1, if_pos (by rw [sI_le (by omega) (by omega)]; omega), if_neg (show ¬ (1 : Int32) = 0 by decide)]
          have eF : F = E := HV_u (HV_c hj t4) ⟨a1, a2, a3, a4, a5⟩
          subst eF
          refine wq_some ⟨rfl, fun _ _ _ _ _ _ => rfl, ⟨c1, fun j u => by rw [← hj j u]; exact c2 j u, BR_c a1 a2 hj c3⟩, rfl⟩
        | succ m ih =>
          intro i f hi hf1 hj
          obtain ⟨g, rfl⟩ : ∃ g, f = g + 1 := ⟨f - 1, by omega⟩
          unfold fX12_body_h21
          rw [mloop_S]
          show wq (fX12_body_i21 fu (sI n) (fX12_body_h21 fu (sI n) g) 1 (sI i) M L) _
          unfold fX12_body_i21 fX12_body_b59
          rw [c1, if_neg (by rw [sI_le (by omega) (by omega)]; omega), if_neg (show ¬ (1 : Int32) = 0 by decide), sI_lml, sI_add, mck_s (by omega) (by omega), mck_s (by omega) (by omega), sI_nn (by omega), sI_nn (by omega), c2 i (by omega), hse i (by omega)]
          simp only [mlet]
          rw [sI_1]
          have l1 := t3 i (by omega)
          have l2 := k3 i (by omega)
          by_cases q : t i = s i
          · rw [if_pos (by rw [q])]
            refine ih (i + 1) g (by omega) (by omega) (fun j u => ?_)
            by_cases w : j = i
            · rw [w]; exact q
            · exact hj j (by omega)
          · rw [if_neg (by rw [sI_eq (by omega) (by omega)]; exact q)]
            obtain ⟨g', rfl⟩ : ∃ g', g = g' + 1 := ⟨g - 1, by omega⟩
            unfold fX12_body_h21
            rw [mloop_S]
            show wq (fX12_body_i21 fu (sI n) _ 0 (sI (i + 1)) M L) _
            unfold fX12_body_i21
            rw [if_pos (show (0 : Int32) = 0 from rfl)]
            by_cases c : M 821 48 ≤ sI (i + 1)
            · rw [if_pos c]; exact anew
            · rw [if_neg c]; exact anew
      exact key kc 0 fu (by omega) (by omega) (fun j u => by omega)
    · rw [if_neg (by rw [sI_eq (by omega) (by omega)]; exact ck)]
      exact no fu (by omega)
/-! the reference's check -/
def wdH (h : Nat → Nat) : Nat := if h 13 = 1 then (if 16 < h 16 then 21 else 17) else 15
def tlH (h : Nat → Nat) : Nat := if h 13 = 1 then Wd h else 0
theorem kd_flex : ∀ e, e < 2 → ∀ f, f < 2 → ∀ r, r < 2 → ((sI (kdE e f r) = 2 ∨ sI (kdE e f r) = 3) ↔ f = 1) := by decide
theorem PI_16 {p h : Nat → Nat} (hI : PI p h) (hk : h 17 < 100000) : h 16 = ocE (h 13) (h 11) (h 14) := by
  obtain ⟨_, _, _, _, _, _, _, _, _, _, b2, _⟩ := PI_b hI
  have k := b2 hk
  obtain ⟨i1, i2, i3, i4, i5, i6, i7, i8, i9, _⟩ := PI_x.mp hI
  by_cases z : atE (h 12) < h 5 ∧ caE (h 12) (h 13) + 4 ≤ h 5
  · rw [if_pos z] at i8
    exact i8
  · rw [if_neg z] at i9
    omega
theorem m_width {fu : Nat} {p h : Nat → Nat} {M : mwM} {L : mwL} (hI : PI p h) (hk : h 17 < 100000) (h42 : M 821 42 = sI (kdH h)) (h43 : M 821 43 = sI (h 14)) : DX12_width fu M L = some (sI (wdH h), M, L) := by
  obtain ⟨w11, w12, w13, _, _, w16, _, w14, _⟩ := PI_b hI
  have e16 := PI_16 hI hk
  have fl := kd_flex _ w12 _ w13 _ w11
  have b21 : h 13 = 1 → fX12_width_b21 fu M L = some (sI (wdH h), M, L) := fun c => by
    unfold fX12_width_b21 fX12_width_b44 wdH
    rw [h42, h43]
    unfold kdH
    rw [m_octetsOf w12 w13 w11 w14, mb3_s, ← e16, if_pos c]
    by_cases d : 16 < h 16
    · rw [if_neg (by rw [sI_lel (by omega) (by decide)]; omega), if_pos d]
      rfl
    · rw [if_pos (by rw [sI_lel (by omega) (by decide)]; omega), if_neg d]
      rfl
  unfold DX12_width fX12_width_b44
  rw [h42]
  unfold kdH
  by_cases c : h 13 = 1
  · rw [b21 c]
    rcases fl.mpr c with z | z
    · rw [if_pos z]
    · rw [if_pos z]
      split <;> rfl
  · have n2 : ¬ sI (kdE (h 12) (h 13) (h 11)) = 2 := fun z => c (fl.mp (Or.inl z))
    have n3 : ¬ sI (kdE (h 12) (h 13) (h 11)) = 3 := fun z => c (fl.mp (Or.inr z))
    rw [if_neg n2, if_neg n3]
    unfold wdH
    rw [if_neg c]
    rfl
theorem m_tail {fu : Nat} {p h : Nat → Nat} {M : mwM} {L : mwL} (hI : PI p h) (hk : h 17 < 100000) (h42 : M 821 42 = sI (kdH h)) (h43 : M 821 43 = sI (h 14)) : DX12_tail fu M L = some (sI (tlH h), M, L) := by
  obtain ⟨w11, w12, w13, _, _, w16, _, w14, _⟩ := PI_b hI
  have fl := kd_flex _ w12 _ w13 _ w11
  unfold DX12_tail fX12_tail_b18
  rw [m_width hI hk h42 h43, mb3_s, h42]
  simp only [mlet]
  unfold kdH
  by_cases c : h 13 = 1
  · have e : 4 + sI (wdH h) + (4 + sI (wdH h) + 3) / 4 = sI (tlH h) := by
      unfold wdH tlH Wd
      rw [if_pos c, if_pos c]
      by_cases d : 16 < h 16
      · rw [if_pos d, if_pos d]
        rfl
      · rw [if_neg d, if_neg d]
        rfl
    rw [e]
    rcases fl.mpr c with z | z
    · rw [if_pos z]
    · rw [if_pos z]
      split <;> rfl
  · have n2 : ¬ sI (kdE (h 12) (h 13) (h 11)) = 2 := fun z => c (fl.mp (Or.inl z))
    have n3 : ¬ sI (kdE (h 12) (h 13) (h 11)) = 3 := fun z => c (fl.mp (Or.inr z))
    rw [if_neg n2, if_neg n3]
    unfold tlH
    rw [if_neg c]
    rfl
/-- is the check right? -/
def rgt (s : Nat → Nat) (E : Nat) (p h : Nat → Nat) : Bool := if h 13 = 1 then decide (tld s E (Wd h) = crcF (2 ^ wTop (wdH h)) (wSh (wdH h)) (wV0 (wdH h)) (scS s E) (E + 4)) else decide (num p (h 17) 15 = crcF (2 ^ 14) 17817 0 p (h 17))
theorem m_right {fu n E : Nat} {s p h o : Nat → Nat} {M : mwM} {L : mwL} (hfu : 1300 ≤ fu) (hn : n < 7) (hD : ED s E p h o) (hE : E ≤ 1000) (hB : BMx M s E p h) (h45 : M 821 45 = sI E) (hs : ∀ i, i < E → s i < 2) (hse : h 13 = 1 → ∀ i, i < E + Wd h → M 837 (1200 * n + i) = sI (s i) ∧ s i < 2) : wq (DX12_right fu (sI n) M L) (fun z => z.1 = bI (rgt s E p h) ∧ z.2.2 = L ∧ (h 13 = 1 → z.2.1 821 48 = -1) ∧ ∀ a y, ¬ (a = 821 ∧ (y = 41 ∨ (y = 48 ∧ h 13 = 1))) → a ≠ 852 → z.2.1 a y = M a y) := by
  obtain ⟨⟨e1, e2, e3, e4, e5, e6, _⟩, hd⟩ := hD
  obtain ⟨w11, w12, w13, _, _, w16, _, w14, _, _, b2, b3, _, _⟩ := PI_b e1
  have k17 : h 17 < 100000 := by
    by_cases y : h 17 < 100000
    · exact y
    · have := b3 (by omega)
      omega
  have kk := b2 k17
  obtain ⟨m1, m2, m3, m4, m5, m6, m7⟩ := hB
  have bits := (PI_x.mp e1).1
  unfold DX12_right
  rw [m_width e1 k17 m4 m5, mb3_s, m_tail e1 k17 m4 m5, mb3_s]
  by_cases c : h 13 = 1
  · obtain ⟨d1, d2, d3⟩ := hd.resolve_right (by omega)
    have wb := Wd_b h
    have tl : tlH h = Wd h := if_pos c
    rw [tl, if_neg (show ¬ sI (Wd h) ≤ 0 by rw [sI_lel (by omega) (by decide)]; omega)]
    simp only [mlet]
    unfold fX12_right_b19
    rw [m_tail (M := mset M 821 48 (-1)) e1 k17 (by rw [mset_n (by omega)]; exact m4) (by rw [mset_n (by omega)]; exact m5), mb3_s, tl, if_neg (show ¬ sI (Wd h) = 0 by rw [sI_eql (by omega) (by decide)]; omega)]
    obtain ⟨m8, m9⟩ := m7 c
    have hse' := hse c
    have w2 : wdH h = 17 ∨ wdH h = 21 := by
      unfold wdH
      rw [if_pos c]
      split <;> omega
    refine wq_for (body := fun f z => fX12_right_i99 fu (sI n) f z.1 z.2.1 z.2.2.1 z.2.2.2.1 z.2.2.2.2.1 z.2.2.2.2.2) (fun j (x : mwM) => (sI (wdH h), sI (tld s E j), sI (j - (j + 4) / 5), sI j, x, L)) (fun j x => x 821 41 = sI (E + (min j 5 - 1)) ∧ (∀ i, i < E + (min j 5 - 1) → x 852 i = sI (scS s E i)) ∧ ∀ a y, ¬ (a = 821 ∧ y = 41) → a ≠ 852 → x a y = mset M 821 48 (-1) a y) (Wd h) ?_ ?_ (Wd h) 0 (mset M 821 48 (-1)) fu (by omega) (by omega) ⟨by rw [mset_n (by omega)]; exact m8, fun i u => ?_, fun _ _ _ _ => rfl⟩
    · intro j x f hj ⟨x1, x2, x3⟩ ih
      show wq (fX12_right_i99 fu (sI n) f (sI (wdH h)) (sI (tld s E j)) (sI (j - (j + 4) / 5)) (sI j) x L) _
      unfold fX12_right_i99 fX12_right_b154 fX12_right_b157
      have xf : ∀ a y, ¬ (a = 821 ∧ (y = 41 ∨ y = 48)) → a ≠ 852 → x a y = M a y := fun a y u1 u2 => by
        rw [x3 a y (by omega) u2, mset_n (by omega)]
      obtain ⟨hb1, hb2⟩ := hse' (E + j) (by omega)
      rw [m_tail (M := x) e1 k17 (by rw [xf 821 42 (by omega) (by omega)]; exact m4) (by rw [xf 821 43 (by omega) (by omega)]; exact m5), mb3_s, tl, if_neg (show ¬ sI (Wd h) ≤ sI j by rw [sI_le (by omega) (by omega)]; omega), show sI j - sI j / 5 * 5 = sI (j % 5) from sI_mod (b := 5) (by omega) (by omega)]
      simp only [mlet]
      rw [sI_1]
      by_cases c1 : j % 5 = 0
      · rw [if_pos (show sI (j % 5) = 0 by rw [c1]; rfl)]
        have := ih x ⟨by rw [x1]; congr 1; omega, fun i u => x2 i (by omega), x3⟩
        unfold tld at this
        rw [if_pos (Or.inl c1), show j + 1 - (j + 1 + 4) / 5 = j - (j + 4) / 5 by omega] at this
        exact this
      · rw [if_neg (show ¬ sI (j % 5) = 0 by rw [sI_eql (by omega) (by decide)]; exact c1), xf 821 45 (by omega) (by omega), h45, sI_add, m_bitAt (b := s (E + j)) hn (by omega) (by rw [xf 837 _ (by omega) (by omega)]; exact hb1), mb3_s, sI_1]
        by_cases c2 : j < 5
        · rw [if_neg (show ¬ 4 ≤ sI (j - (j + 4) / 5) by rw [sI_lle (by decide) (by omega)]; omega), m_check x1 (by omega) hb2, mb2_s]
          refine (?_ : wq (f (sI (wdH h), sI (tld s E j), sI (j - (j + 4) / 5 + 1), sI (j + 1), mset (mset x 852 (E + (min j 5 - 1)) (sI (s (E + j)))) 821 41 (sI (E + (min j 5 - 1) + 1)), L)) _)
          have := ih (mset (mset x 852 (E + (min j 5 - 1)) (sI (s (E + j)))) 821 41 (sI (E + (min j 5 - 1) + 1))) ⟨by rw [mset_s]; congr 1; omega, fun i u => ?_, fun a y u1 u2 => by rw [mset_n (by omega), mset_n (by omega)]; exact x3 a y u1 u2⟩
          · unfold tld at this
            rw [if_pos (by omega), show j + 1 - (j + 1 + 4) / 5 = j - (j + 4) / 5 + 1 by omega] at this
            exact this
          · rw [mset_n (by omega)]
            by_cases q : i = E + (min j 5 - 1)
            · rw [q, mset_s]
              unfold scS
              rw [if_neg (by omega), show E + (min j 5 - 1) + 1 = E + j by omega]
            · rw [mset_n (by omega)]
              exact x2 i (by omega)
        · rw [if_pos (show 4 ≤ sI (j - (j + 4) / 5) by rw [sI_lle (by decide) (by omega)]; omega), sI_lml, sI_add]
          have := ih x ⟨by rw [x1]; congr 1; omega, fun i u => x2 i (by omega), x3⟩
          unfold tld at this
          rw [if_neg (by omega), show j + 1 - (j + 1 + 4) / 5 = j - (j + 4) / 5 + 1 by omega] at this
          exact this
    · intro x f ⟨x1, x2, x3⟩
      show wq (fX12_right_i99 fu (sI n) f (sI (wdH h)) (sI (tld s E (Wd h))) (sI (Wd h - (Wd h + 4) / 5)) (sI (Wd h)) x L) _
      unfold fX12_right_i99 fX12_right_b177
      have xf : ∀ a y, ¬ (a = 821 ∧ (y = 41 ∨ y = 48)) → a ≠ 852 → x a y = M a y := fun a y u1 u2 => by
        rw [x3 a y (by omega) u2, mset_n (by omega)]
      have sc2 : ∀ i, i < E + 4 → scS s E i < 2 := fun i u => by
        unfold scS
        split
        · exact hs i (by assumption)
        · exact (hse' (i + 1) (by omega)).2
      rw [show E + (min (Wd h) 5 - 1) = E + 4 by omega] at x1 x2
      rw [m_tail (M := x) e1 k17 (by rw [xf 821 42 (by omega) (by omega)]; exact m4) (by rw [xf 821 43 (by omega) (by omega)]; exact m5), mb3_s, tl, if_pos (show sI (Wd h) ≤ sI (Wd h) by rw [sI_le (by omega) (by omega)]; omega), m_checkOf (c := E + 4) (s := scS s E) (by omega) (by omega) x1 (by omega) (fun i u => ⟨x2 i u, sc2 i u⟩), mb3_s]
      simp only [mzz_0, mzz_1]
      have t1 := tld_lt (s := s) (e := E) (Wd h) (fun j u => (hse' j (by omega)).2)
      have t2 : 2 ^ (Wd h - (Wd h + 4) / 5 - 4) ≤ 2 ^ 21 := Nat.pow_le_pow_right (by omega) (by omega)
      have t3 : crcF (2 ^ wTop (wdH h)) (wSh (wdH h)) (wV0 (wdH h)) (scS s E) (E + 4) < 2 ^ 21 := by
        have nx : crcF (2 ^ wTop (wdH h)) (wSh (wdH h)) (wV0 (wdH h)) (scS s E) (E + 4) = crcS (2 ^ wTop (wdH h)) (wSh (wdH h)) (crcF (2 ^ wTop (wdH h)) (wSh (wdH h)) (wV0 (wdH h)) (scS s E) (E + 3)) (scS s E (E + 3)) := rfl
        rw [nx]
        rcases w2 with w | w
        · rw [w]
          exact Nat.lt_of_lt_of_le (crcS_lt (m := 16) (by decide)) (by decide)
        · rw [w]
          exact crcS_lt (m := 20) (by decide)
      have fr : ∀ a y, ¬ (a = 821 ∧ (y = 41 ∨ (y = 48 ∧ h 13 = 1))) → a ≠ 852 → x a y = M a y := fun a y u1 u2 => by
        rw [x3 a y (by omega) u2, mset_n (by omega)]
      unfold rgt
      rw [if_pos c]
      by_cases q : tld s E (Wd h) = crcF (2 ^ wTop (wdH h)) (wSh (wdH h)) (wV0 (wdH h)) (scS s E) (E + 4)
      · rw [if_pos (by rw [q]), decide_eq_true q]
        exact wq_some ⟨rfl, rfl, fun _ => by dsimp only; rw [x3 821 48 (by omega) (by omega), mset_s], fr⟩
      · rw [if_neg (by rw [sI_eq (by omega) (by omega)]; exact q), decide_eq_false q]
        exact wq_some ⟨rfl, rfl, fun _ => by dsimp only; rw [x3 821 48 (by omega) (by omega), mset_s], fr⟩
    · rw [mset_n (by omega)]
      unfold scS
      rw [if_pos (by omega)]
      exact m9 i (by omega)
  · obtain ⟨d1, d2, d3⟩ := hd.resolve_left (by omega)
    have tl : tlH h = 0 := if_neg c
    have wd : wdH h = 15 := if_neg c
    rw [tl, wd, if_pos (show sI 0 ≤ 0 by decide)]
    unfold fX12_right_b19
    rw [m_tail e1 k17 m4 m5, mb3_s, tl, if_pos (show sI 0 = 0 from rfl), m1, show sI (h 5) - 15 = sI (h 5 - 15) from sI_sub (b := 15) (by omega)]
    have nm : DX12_number fu (sI (h 5 - 15)) 15 M L = some (sI (num p (h 5 - 15) 15), M, L) := m_number (n := 15) (by omega) (by omega) (fun i u1 u2 => m2 i (by omega))
    rw [nm, mb3_s, show h 5 - 15 = h 17 by omega]
    simp only [mlet]
    have kl : num p (h 17) 15 < 2 ^ 15 := num_lt 15 (fun i u1 u2 => bits i (by omega))
    refine wq_for (body := fun f z => fX12_right_i48 fu (sI n) f z.1 z.2.1 z.2.2.1 z.2.2.2) (fun j (x : mwM) => (sI (num p (h 17) 15), sI j, x, L)) (fun j x => x 821 41 = sI j ∧ (∀ i, i < j → x 852 i = sI (p i)) ∧ ∀ a y, ¬ (a = 821 ∧ y = 41) → a ≠ 852 → x a y = M a y) (h 17) ?_ ?_ (h 17) 0 (mset M 821 41 0) fu (by omega) (by omega) ⟨by rw [mset_s]; rfl, fun i u => by omega, fun a y u1 u2 => mset_n u1⟩
    · intro j x f hj ⟨x1, x2, x3⟩ ih
      show wq (fX12_right_i48 fu (sI n) f (sI (num p (h 17) 15)) (sI j) x L) _
      unfold fX12_right_i48
      rw [x3 821 34 (by omega) (by omega), m1, show sI (h 5) - 15 = sI (h 5 - 15) from sI_sub (b := 15) (by omega), if_neg (by rw [sI_le (by omega) (by omega)]; omega), mck_s (by omega) (by omega), sI_nn (by omega), x3 848 j (by omega) (by omega), m2 j (by omega), m_check x1 (by omega) (bits j (by omega)), mb2_s]
      simp only [mlet]
      rw [sI_1]
      refine ih _ ⟨mset_s, fun i u => ?_, fun a y u1 u2 => by rw [mset_n (by omega), mset_n (by omega)]; exact x3 a y u1 u2⟩
      rw [mset_n (by omega)]
      by_cases q : i = j
      · rw [q, mset_s]
      · rw [mset_n (by omega)]
        exact x2 i (by omega)
    · intro x f ⟨x1, x2, x3⟩
      show wq (fX12_right_i48 fu (sI n) f (sI (num p (h 17) 15)) (sI (h 17)) x L) _
      unfold fX12_right_i48 fX12_right_b92
      have co : DX12_checkOf fu 15 x L = some (sI (crcF (2 ^ 14) 17817 0 p (h 17)), x, L) := m_checkOf (w := 15) (c := h 17) (s := p) (by omega) (by omega) x1 (by omega) (fun i u => ⟨x2 i u, bits i (by omega)⟩)
      rw [x3 821 34 (by omega) (by omega), m1, show sI (h 5) - 15 = sI (h 5 - 15) from sI_sub (b := 15) (by omega), if_pos (by rw [sI_le (by omega) (by omega)]; omega), co, mb3_s]
      simp only [mzz_0, mzz_1]
      have t3 := crcF15_lt (s := p) (h 17)
      have fr : ∀ a y, ¬ (a = 821 ∧ (y = 41 ∨ (y = 48 ∧ h 13 = 1))) → a ≠ 852 → x a y = M a y := fun a y u1 u2 => x3 a y (by omega) u2
      unfold rgt
      rw [if_neg c]
      by_cases q : num p (h 17) 15 = crcF (2 ^ 14) 17817 0 p (h 17)
      · rw [if_pos (by rw [q]), decide_eq_true q]
        exact wq_some ⟨rfl, rfl, fun z => absurd z c, fr⟩
      · rw [if_neg (by rw [sI_eq (by omega) (by omega)]; exact q), decide_eq_false q]
        exact wq_some ⟨rfl, rfl, fun z => absurd z c, fr⟩
/-! the reference reads, and answers -/
theorem BE_HV {s : Nat → Nat} {K e : Nat} (hB : BE s z0 (K - 1) e) (ce : e ≤ K - 1) (hg : Gd s (K - 1)) : HV s K e := by
  obtain ⟨b1, b2, b3, b4⟩ := hB
  refine ⟨b1, by omega, fun j u1 u2 u3 => b3 j u1 (by omega) u2, fun j u1 u2 u3 => ?_, fun _ _ => ?_⟩
  · have e1 := b3 j u1 (by omega) (by omega)
    have := hg j u1 (by omega)
    rw [(rAll_0 e1.2.1).1] at this
    rcases this with z | z
    · exact z
    · exact absurd z rBody_6
  · have := (b4 0 (by omega)).1
    have hd := this.1.2
    intro z
    omega
theorem HV_ET {s : Nat → Nat} {K E : Nat} (hV : HV s K E) (hE : E ≤ K - 1) (hK : 2 ≤ K) (h0 : s 0 = 0) (hs : ∀ i, i < K → s i < 2) (hg : Gd s (K - 1)) : ET s E (K - 1 - E) (pq s E) (hq s E) (hq s (K - 1)) (oq s z0 E) ∧ ED s E (pq s E) (hq s E) (oq s z0 E) ∧ rBody (s (E - 1)) (hq s (E - 1)) = 0 := by
  obtain ⟨e, hB⟩ := BE_K z0 (K - 1) (by omega) h0 (fun i u => hs i (by omega)) hg
  have rz : rBody (s (E - 1)) (hq s (E - 1)) = 0 := by
    have e1 := hV.2.2.1 (E - 1) (by have := hV.1; omega) (by have := hV.1; omega) (by omega)
    have := hg (E - 1) (by have := hV.1; omega) (by have := hV.1; omega)
    rw [(rAll_0 e1.2.1).1] at this
    rcases this with z | z
    · exact z
    · exact absurd z rBody_6
  have ee : e = E := by
    by_cases c : e ≤ K - 1
    · exact HV_u (BE_HV hB c hg) hV
    · exfalso
      have e1 := hB.2.2.1 E (by have := hV.1; omega) hE (by omega)
      exact hV.2.2.2.2 (by omega) rz e1.2.1
  subst ee
  have t := (hB.2.2.2 (K - 1 - e) (by omega)).1
  rw [show e + (K - 1 - e) = K - 1 by omega] at t
  exact ⟨t, t.1, rz⟩
theorem hR_nf {s p he o : Nat → Nat} {E : Nat} (hD : ED s E p he o) (c1 : he 13 = 0) : hRight he = rgt s E p he := by
  obtain ⟨⟨e1, _⟩, hd⟩ := hD
  obtain ⟨_, _, _, _, _, _, _, _, _, _, b2, b3, _, _⟩ := PI_b e1
  obtain ⟨d1, d2, d3⟩ := hd.resolve_left (by omega)
  have f11 := (PI_x.mp e1).2.2.2.2.2.2.2.2.2.2.1
  have f12 := (PI_x.mp e1).2.2.2.2.2.2.2.2.2.2.2
  unfold hRight rgt
  rw [if_pos c1, if_neg (by omega)]
  have a : he 18 = num p (he 17) 15 := by rw [f11, d3, show he 17 + 15 - he 17 = 15 by omega]
  have b : he 7 = crcF (2 ^ 14) 17817 0 p (he 17) := by rw [f12, show min (he 5) (he 17) = he 17 by omega]
  rw [a, b]
theorem hR_fx {s p he g : Nat → Nat} {E : Nat} (hF : FX s E he g (Wd he)) (c1 : he 13 = 1) : hRight g = rgt s E p he := by
  obtain ⟨f2, f19, f18, f8, f9, l8, l9, fr⟩ := hF
  have g13 := fr 13 (by omega) (by omega) (by omega) (by omega) (by omega) (by omega) (by omega)
  have g16 := fr 16 (by omega) (by omega) (by omega) (by omega) (by omega) (by omega) (by omega)
  have wb := Wd_b he
  rw [show E + (min (Wd he) 5 - 1) = E + 4 by omega] at f8 f9
  unfold hRight rgt
  rw [if_neg (by omega), if_pos c1, f18, g16]
  unfold wdH
  rw [if_pos c1]
  by_cases d : 16 < he 16
  · rw [if_pos d, if_pos d, f9]
    rfl
  · rw [if_neg d, if_neg d, f8]
    rfl
theorem m_cnt : ∀ n, n < 8 → ∀ (M : mwM) (L : mwL) (fu : Nat), (mb3 (DX12_parity fu (sI n ^^^ (sI n / 2)) M L) (fun r7 M5 L6 => some ((2 * (sI n ^^^ (sI n / 2))) + r7, M5, L6)) : Option (Int32 × mwM × mwL)) = some (sI (cntF n), M, L) := by
  intro n hn M L fu
  unfold DX12_parity
  rcases (show n = 0 ∨ n = 1 ∨ n = 2 ∨ n = 3 ∨ n = 4 ∨ n = 5 ∨ n = 6 ∨ n = 7 by omega) with rfl | rfl | rfl | rfl | rfl | rfl | rfl | rfl <;> rfl
theorem m_countOf {fu x : Nat} {M : mwM} {L : mwL} (hx : x < 2000000000) : DX12_countOf fu (sI x) M L = some (sI (cntF x), M, L) := by
  unfold DX12_countOf
  rw [show sI x - sI x / 8 * 8 = sI (x % 8) from sI_mod (b := 8) hx (by omega)]
  simp only [mlet]
  rw [m_cnt _ (Nat.mod_lt _ (by decide))]
  unfold cntF
  rw [Nat.mod_mod]
def rmI (r : Nat) : Int32 := if r = 0 then -1 else if r = 6 then 10 else if r = 7 then 11 else sI r
theorem sI_mm (a : Nat) : sI a - sI (a + 1) = -1 := by
  apply Int32.toBitVec_inj.mp
  show BitVec.ofNat 32 a - BitVec.ofNat 32 (a + 1) = (-1 : Int32).toBitVec
  apply BitVec.eq_of_toNat_eq
  rw [BitVec.toNat_sub, BitVec.toNat_ofNat, BitVec.toNat_ofNat, show ((-1 : Int32).toBitVec).toNat = 4294967295 by decide]
  omega
def rLast (s : Nat → Nat) (K : Nat) : Nat := if K = 1 then 0 else rAll (s (K - 1)) (hq s (K - 1))
theorem CAs_CA {M : mwM} {s : Nat → Nat} {K E : Nat} (hV : CaV s K E) (h : CAs M s K E) : CA M := Or.inr ⟨s, K, E, hV, h.1, h.2.1, h.2.2⟩
/-- the check leaves what is remembered -/
theorem CA_right {M M' : mwM} {s : Nat → Nat} {K E : Nat} (hV : CaV s K E) (hE : E ≤ K) (h : CAs M s K E) (h1 : hq s E 13 = 1 → M' 821 48 = -1) (hf : ∀ a y, ¬ (a = 821 ∧ (y = 41 ∨ (y = 48 ∧ hq s E 13 = 1))) → a ≠ 852 → M' a y = M a y) : CA M' := by
  by_cases c : hq s E 13 = 1
  · exact Or.inl (h1 c)
  · obtain ⟨c1, c2, c3⟩ := h
    refine Or.inr ⟨s, K, E, hV, by rw [hf 821 48 (by omega) (by omega)]; exact c1, fun i u => by rw [hf 853 i (by omega) (by omega)]; exact c2 i u, ?_⟩
    rw [hf 821 49 (by omega) (by omega)]
    rcases c3 with z | z | z
    · exact Or.inl z
    · refine Or.inr (Or.inl ⟨z.1, z.2.1, z.2.2.1, by rw [hf 821 45 (by omega) (by omega)]; exact z.2.2.2.1, ?_⟩)
      obtain ⟨m1, m2, m3, m4, m5, m6, m7⟩ := z.2.2.2.2
      refine ⟨?_, fun i u => ?_, ?_, ?_, ?_, ?_, fun w => absurd w c⟩
      · rw [hf 821 34 (by omega) (by omega)]; exact m1
      · rw [hf 848 i (by omega) (by omega)]; exact m2 i u
      · rw [hf 821 46 (by omega) (by omega)]; exact m3
      · rw [hf 821 42 (by omega) (by omega)]; exact m4
      · rw [hf 821 43 (by omega) (by omega)]; exact m5
      · rw [hf 821 44 (by omega) (by omega)]; exact m6
    · exact Or.inr (Or.inr ⟨z.1, z.2.1, by rw [hf 821 45 (by omega) (by omega)]; exact z.2.2⟩)
theorem m_read {fu n K E : Nat} {s : Nat → Nat} {M : mwM} {L : mwL} (hfu : 1300 ≤ fu) (hn : n < 7) (h836 : M 836 n = sI K) (hse : ∀ i, i < K → M 837 (1200 * n + i) = sI (s i)) (h0 : s 0 = 0) (hV : CaV s K E) (hg : Gd s (K - 1)) (hC : CA M) : wq (DX12_read fu (sI n) M L) (fun z => z.1 = rmI (rLast s K) ∧ z.2.2 = L ∧ bF M z.2.1 ∧ CA z.2.1) := by
  obtain ⟨k1, k2, k3, hHV⟩ := hV
  have hV : CaV s K E := ⟨k1, k2, k3, hHV⟩
  obtain ⟨a1, a2, a3, a4, a5⟩ := hHV
  have hHV : HV s K E := ⟨a1, a2, a3, a4, a5⟩
  unfold DX12_read
  refine wq_b3 (m_body hfu hn h836 hse h0 hV hC) ?_
  rintro r M1 L1 ⟨y1, y2, y3, y4⟩
  dsimp only at y1 y2 y3 y4
  subst y1
  have hca := CAs_CA hV y3
  obtain ⟨y5, y6, y7⟩ := y3
  rw [y4] at y7
  unfold fX12_read_b19
  rcases y7 with ⟨z1, z2, z3⟩ | ⟨z1, z2, z3, z4, z5⟩ | ⟨z1, z2, z3⟩
  · -- an error in the body
    have eK : E = K := by
      by_cases c : E = K
      · exact c
      · exact absurd (HV_ET hHV (by omega) (by omega) h0 k3 hg).2.2 z2
    subst eK
    have hl : rLast s E = rBody (s (E - 1)) (hq s (E - 1)) := by
      unfold rLast
      rw [if_neg (by omega), (rAll_0 (a3 (E - 1) (by omega) (by omega) (by omega)).2.1).1]
    have r12 : rBody (s (E - 1)) (hq s (E - 1)) = 1 ∨ rBody (s (E - 1)) (hq s (E - 1)) = 2 := by
      unfold rBody at z2 ⊢
      by_cases c : hq s (E - 1) 3 = 5
      · rw [if_pos c] at z2 ⊢
        split
        · exact Or.inl rfl
        · rename_i w
          rw [if_neg w] at z2
          omega
      · rw [if_neg c] at z2 ⊢
        by_cases w : s (E - 1) = 1 ∧ hPl0 (s (E - 1)) (hq s (E - 1)) 13 = 1 ∧ hq s (E - 1) 5 = (if hPl0 (s (E - 1)) (hq s (E - 1)) 12 = 1 then 34 else 15)
        · rw [if_pos w]
          exact Or.inr rfl
        · rw [if_neg w] at z2
          omega
    rw [z3, hl, if_neg (fun w => sI_m1n (by omega) w.symm)]
    refine wq_some ⟨?_, rfl, y2, hca⟩
    dsimp only
    unfold rmI
    rw [if_neg (by omega), if_neg (by omega), if_neg (by omega)]
  · -- the body has ended
    subst z3
    rw [if_pos rfl, z4, if_neg (fun w => sI_m1n (by omega) w.symm), mck_s (by omega) (by omega), sI_nn (by omega), y2 836 n (by omega) (by omega) (by omega) (by omega), h836, show sI K - 1 = sI (K - 1) from sI_sub (b := 1) (by omega)]
    simp only [mlet]
    have bt : ∀ (X : mwM), (∀ a y, a = 837 → X a y = M a y) → ∀ i, i < K → DX12_bitAt fu (sI n) (sI i) X L1 = some (sI (s i), X, L1) := fun X hX i u => m_bitAt hn (by omega) (by rw [hX 837 _ rfl]; exact hse i u)
    have f837 : ∀ a y, a = 837 → M1 a y = M a y := fun a y u => y2 a y (by omega) (by omega) (by omega) (by omega)
    rw [bt M1 f837 (K - 1) (by omega), mb3_s, z4]
    by_cases cE : E = K
    · -- right now
      rw [cE, show sI (K - 1) - sI K = -1 by have := sI_mm (K - 1); rw [show K - 1 + 1 = K by omega] at this; exact this, if_neg (show ¬ (0 : Int32) ≤ -1 by decide)]
      refine wq_some ⟨?_, rfl, y2, hca⟩
      dsimp only
      have hl : rLast s K = 0 := by
        unfold rLast
        rw [if_neg (by omega), (rAll_0 (a3 (K - 1) (by omega) (by omega) (by omega)).2.1).1, ← cE]
        exact z2
      rw [hl]
      rfl
    · obtain ⟨hT, hD, _⟩ := HV_ET hHV (by omega) (by omega) h0 k3 hg
      have hl : rLast s K = rAll (s (K - 1)) (hq s (K - 1)) := by
        unfold rLast
        rw [if_neg (by omega)]
      rw [hl]
      have hD' := hD
      obtain ⟨⟨e1, e2, e3, e4, e5, e6, _⟩, hd⟩ := hD'
      obtain ⟨w11, w12, w13, _, _, w16, _, w14, _, _, b2, b3, _, _⟩ := PI_b e1
      have k17 : hq s E 17 < 100000 := by
        by_cases y : hq s E 17 < 100000
        · exact y
        · have := b3 (by omega)
          omega
      have kk := b2 k17
      obtain ⟨m1, m2, m3, m4, m5, m6, m7⟩ := z5
      have hb := k3 (K - 1) (by omega)
      have wb := Wd_b (hq s E)
      obtain ⟨j, hj⟩ : ∃ j, j = K - 1 - E := ⟨_, rfl⟩
      have hT2 := hT.2
      rw [← hj] at hT2
      rw [sI_sub (by omega), ← hj, if_pos (show 0 ≤ sI j by rw [sI_lle (by decide) (by omega)]; omega), m_tail e1 k17 m4 m5, mb3_s, m_tail e1 k17 m4 m5, mb3_s]
      have hcas : CAs M1 s K E := ⟨y5, y6, by rw [y4]; exact Or.inr (Or.inl ⟨z1, z2, rfl, z4, ⟨m1, m2, m3, m4, m5, m6, m7⟩⟩)⟩
      -- behind all of it
      have tail : ∀ (h : Nat → Nat) (i : Nat), h 1 = 2 → h 6 = i → i ≤ 9 → j = tlH (hq s E) + i → hRight h = rgt s E (pq s E) (hq s E) → (hq s E 13 = 1 → i ≥ 0 ∧ E + Wd (hq s E) ≤ K) → wq (if sI i = 1 then some ((-1 : Int32), M1, L1) else if sI i = 9 then (if sI (s (K - 1)) = 1 then fX12_read_b191 fu (sI n) 11 M1 L1 else fX12_read_b191 fu (sI n) 5 M1 L1) else if sI (s (K - 1)) = 0 then some (2, M1, L1) else if sI i = 2 then mb3 (DX12_right fu (sI n) M1 L1) (fun r40 M38 L39 => if r40 = 0 then fX12_read_b218 fu (sI n) 3 M38 L39 else fX12_read_b218 fu (sI n) (-1) M38 L39) else if sI i = 8 then fX12_read_b232 fu (sI n) 10 M1 L1 else fX12_read_b232 fu (sI n) (-1) M1 L1) (fun z => z.1 = rmI (rTail (s (K - 1)) h) ∧ z.2.2 = L1 ∧ bF M z.2.1 ∧ CA z.2.1) := by
        intro h i h1 h6 hi hji hR hw
        unfold fX12_read_b191 fX12_read_b218 fX12_read_b232 rTail
        rw [h6]
        by_cases c1 : i = 1
        · rw [if_pos (show sI i = 1 by rw [c1]; rfl), if_pos c1]
          exact wq_some ⟨rfl, rfl, y2, hca⟩
        · rw [if_neg (show ¬ sI i = 1 by rw [sI_eql (by omega) (by decide)]; exact c1), if_neg c1]
          by_cases c9 : i = 9
          · rw [if_pos (show sI i = 9 by rw [c9]; rfl)]
            by_cases cb : s (K - 1) = 0
            · rw [if_neg (show ¬ sI (s (K - 1)) = 1 by rw [sI_eql (by omega) (by decide)]; omega), if_pos cb, if_pos c9]
              exact wq_some ⟨rfl, rfl, y2, hca⟩
            · rw [if_pos (show sI (s (K - 1)) = 1 by rw [show s (K - 1) = 1 by omega]; rfl), if_neg cb, if_neg (by omega), if_neg (by omega), if_neg (by omega)]
              exact wq_some ⟨rfl, rfl, y2, hca⟩
          · rw [if_neg (show ¬ sI i = 9 by rw [sI_eql (by omega) (by decide)]; exact c9)]
            by_cases cb : s (K - 1) = 0
            · rw [if_pos (show sI (s (K - 1)) = 0 by rw [cb]; rfl), if_pos cb, if_neg c9]
              exact wq_some ⟨rfl, rfl, y2, hca⟩
            · rw [if_neg (show ¬ sI (s (K - 1)) = 0 by rw [sI_eql (by omega) (by decide)]; exact cb), if_neg cb]
              by_cases c2 : i = 2
              · rw [if_pos (show sI i = 2 by rw [c2]; rfl)]
                refine wq_b3 (m_right (L := L1) hfu hn hD (by omega) ⟨m1, m2, m3, m4, m5, m6, m7⟩ z4 (fun i u => k3 i (by omega)) (fun c i u => ⟨by rw [f837 837 _ rfl]; exact hse i (by have := hw c; omega), k3 i (by have := hw c; omega)⟩)) ?_
                rintro r2 M2 L2 ⟨t1, t2, t3, t4⟩
                dsimp only at t1 t2 t3 t4
                subst t2
                have bf2 : bF M M2 := bF_t y2 (fun a y u1 u2 u3 u4 => t4 a y (by omega) u3)
                have ca2 := CA_right hV z1 hcas t3 t4
                rw [t1, ← hR]
                cases hr : hRight h with
                | false =>
                  rw [if_pos (show bI false = 0 from rfl), if_pos ⟨c2, rfl⟩]
                  exact wq_some ⟨rfl, rfl, bf2, ca2⟩
                | true =>
                  rw [if_neg (show ¬ bI true = 0 by decide), if_neg (fun z => by cases z.2), if_neg (by omega), if_pos (by omega)]
                  exact wq_some ⟨rfl, rfl, bf2, ca2⟩
              · rw [if_neg (show ¬ sI i = 2 by rw [sI_eql (by omega) (by decide)]; exact c2), if_neg (show ¬ (i = 2 ∧ hRight h = false) from fun z => c2 z.1)]
                by_cases c8 : i = 8
                · rw [if_pos (show sI i = 8 by rw [c8]; rfl), if_pos c8]
                  exact wq_some ⟨rfl, rfl, y2, hca⟩
                · rw [if_neg (show ¬ sI i = 8 by rw [sI_eql (by omega) (by decide)]; exact c8), if_neg c8, if_pos (by omega)]
                  exact wq_some ⟨rfl, rfl, y2, hca⟩
      rcases hT2 with ⟨c1, c2, c3⟩ | ⟨c1, c2, c3, c4, c5⟩ | ⟨c1, g, c2, c3, c4, c5, c6⟩
      · have tl : tlH (hq s E) = 0 := if_neg (by omega)
        have h1 : hq s (K - 1) 1 = 2 := by
          rw [c2]
          show hq s E 1 = 2
          omega
        have h6 : hq s (K - 1) 6 = j := by rw [c2, nst_s]
        have ra : rAll (s (K - 1)) (hq s (K - 1)) = rTail (s (K - 1)) (hq s (K - 1)) := by
          unfold rAll
          rw [if_neg (by omega), if_pos h1]
        rw [tl, if_pos (show sI 0 ≤ sI j by rw [sI_le (by omega) (by omega)]; omega), sI_sub (show 0 ≤ j by omega), Nat.sub_zero, ra]
        exact tail _ j h1 h6 c3 (by omega) (by rw [c2]; exact (show hRight (hq s E) = _ from hR_nf hD c1)) (fun z => by omega)
      · have tl : tlH (hq s E) = Wd (hq s E) := if_pos c1
        have ra : rAll (s (K - 1)) (hq s (K - 1)) = rFix (s (K - 1)) (hq s (K - 1)) := by
          unfold rAll
          rw [if_pos c4]
        rw [tl, if_neg (show ¬ sI (Wd (hq s E)) ≤ sI j by rw [sI_le (by omega) (by omega)]; omega), ra, show sI j - sI j / 5 * 5 = sI (j % 5) from sI_mod (b := 5) (by omega) (by omega)]
        obtain ⟨f2, f19, f18, f8, f9, l8, l9, fr⟩ := c3
        unfold rFix
        rw [c5]
        by_cases d1 : j % 5 = 0
        · rw [if_pos (show sI (j % 5) = 0 by rw [d1]; rfl), show sI (K - 1) - 1 = sI (K - 1 - 1) from sI_sub (b := 1) (by omega), bt M1 f837 (K - 1 - 1) (by omega), mb3_s, if_pos d1, f2, show E + j - 1 = K - 1 - 1 by omega]
          unfold fX12_read_b87
          have hb2 := k3 (K - 1 - 1) (by omega)
          by_cases d2 : s (K - 1) = s (K - 1 - 1)
          · rw [if_pos (show sI (s (K - 1)) = sI (s (K - 1 - 1)) by rw [d2]), if_pos d2]
            exact wq_some ⟨rfl, rfl, y2, hca⟩
          · rw [if_neg (show ¬ sI (s (K - 1)) = sI (s (K - 1 - 1)) by rw [sI_eq (by omega) (by omega)]; exact d2), if_neg d2]
            exact wq_some ⟨rfl, rfl, y2, hca⟩
        · rw [if_neg (show ¬ sI (j % 5) = 0 by rw [sI_eql (by omega) (by decide)]; exact d1), if_neg d1]
          by_cases d2 : j = 4
          · -- the count
            have h4 : hq s (K - 1) 4 = hq s E 4 := fr 4 (by omega) (by omega) (by omega) (by omega) (by omega) (by omega) (by omega)
            have n4 : 2 * hq s (K - 1) 19 + s (K - 1) = num (fun i => s (E + i)) 1 4 := by
              rw [f19, d2]
              show _ = 2 * num (fun i => s (E + i)) 1 3 + s (E + (1 + 3))
              rw [show E + (1 + 3) = K - 1 by omega]
              rfl
            have nl : num (fun i => s (E + i)) 1 4 < 2 ^ 4 := num_lt 4 (fun i u1 u2 => k3 _ (by omega))
            have key : ∀ (m i f : Nat), i + m = 4 → m < f → wq (fX12_read_h94 fu (sI n) f (4, sI (num (fun i => s (E + i)) 1 i), sI (1 + i), M1, L1)) (fun z => z.1 = rmI (if j - j / 5 - 1 = 3 ∧ 2 * hq s (K - 1) 19 + s (K - 1) ≠ cntF (hq s (K - 1) 4) then 1 else 0) ∧ z.2.2 = L1 ∧ bF M z.2.1 ∧ CA z.2.1) := by
              intro m
              induction m with
              | zero =>
                intro i f hi hf1
                obtain ⟨g, rfl⟩ : ∃ g, f = g + 1 := ⟨f - 1, by omega⟩
                have : i = 4 := by omega
                subst this
                unfold fX12_read_h94
                rw [mloop_S]
                show wq (fX12_read_i94 fu (sI n) _ 4 (sI (num (fun i => s (E + i)) 1 4)) (sI (1 + 4)) M1 L1) _
                unfold fX12_read_i94 fX12_read_b131 fX12_read_b153 fX12_read_b154
                have cl := cntF_lt (hq s E 4)
                rw [if_pos (by decide), if_pos rfl, m3, m_countOf (by omega), mb3_s, n4, h4]
                by_cases d3 : num (fun i => s (E + i)) 1 4 = cntF (hq s E 4)
                · rw [if_pos (by rw [d3]), if_neg (fun z => z.2 d3)]
                  exact wq_some ⟨rfl, rfl, y2, hca⟩
                · rw [if_neg (by rw [sI_eq (by omega) (by omega)]; exact d3), if_pos ⟨by omega, d3⟩]
                  exact wq_some ⟨rfl, rfl, y2, hca⟩
              | succ m ih =>
                intro i f hi hf1
                obtain ⟨g, rfl⟩ : ∃ g, f = g + 1 := ⟨f - 1, by omega⟩
                unfold fX12_read_h94
                rw [mloop_S]
                show wq (fX12_read_i94 fu (sI n) (fX12_read_h94 fu (sI n) g) 4 (sI (num (fun i => s (E + i)) 1 i)) (sI (1 + i)) M1 L1) _
                unfold fX12_read_i94
                rw [if_neg (by rw [sI_lle (by decide) (by omega)]; omega), if_pos rfl, z4, sI_add, bt M1 f837 (E + (1 + i)) (by omega), mb3_s, sI_lml, sI_add, sI_1]
                simp only [mlet]
                exact ih (i + 1) g (by omega) (by omega)
            rw [show sI j = 4 by rw [d2]; rfl]
            exact key 4 0 fu (by omega) (by omega)
          · obtain ⟨f, rfl⟩ : ∃ f, fu = f + 1 := ⟨fu - 1, by omega⟩
            unfold fX12_read_h94
            rw [mloop_S]
            show wq (fX12_read_i94 (f + 1) (sI n) _ (sI j) 0 1 M1 L1) _
            unfold fX12_read_i94 fX12_read_b131 fX12_read_b153 fX12_read_b154
            have n4 : ¬ sI j = 4 := by rw [sI_eql (by omega) (by decide)]; exact d2
            rw [if_neg (show ¬ (5 : Int32) ≤ 1 by decide), if_neg n4, if_neg n4, if_neg (show ¬ (j - j / 5 - 1 = 3 ∧ 2 * hq s (K - 1) 19 + s (K - 1) ≠ cntF (hq s (K - 1) 4)) from fun z => by omega)]
            exact wq_some ⟨rfl, rfl, y2, hca⟩
      · have tl : tlH (hq s E) = Wd (hq s E) := if_pos c1
        have h1 : hq s (K - 1) 1 = 2 := by rw [c6]; exact c3
        have h6 : hq s (K - 1) 6 = j - Wd (hq s E) := by rw [c6, nst_s]
        have ra : rAll (s (K - 1)) (hq s (K - 1)) = rTail (s (K - 1)) (hq s (K - 1)) := by
          unfold rAll
          rw [if_neg (by omega), if_pos h1]
        rw [tl, if_pos (show sI (Wd (hq s E)) ≤ sI j by rw [sI_le (by omega) (by omega)]; exact c4), sI_sub c4, ra]
        exact tail _ _ h1 h6 c5 (by omega) (by rw [c6]; exact (show hRight g = _ from hR_fx c2 c1)) (fun _ => ⟨by omega, by omega⟩)
  · -- it goes on
    subst z2
    rw [if_pos rfl, z3, if_pos rfl]
    refine wq_some ⟨?_, rfl, y2, hca⟩
    dsimp only
    have hl : rLast s K = 0 := by
      unfold rLast
      by_cases c : K = 1
      · rw [if_pos c]
      · rw [if_neg c, (rAll_0 (a3 (K - 1) (by omega) (by omega) (by omega)).2.1).1]
        exact a4 (K - 1) (by omega) (by omega) (by omega)
    rw [hl]
    rfl
/-! the reference answers, and takes -/
theorem BE_HK {s : Nat → Nat} {K e : Nat} (hB : BE s z0 K e) (hg : Gd s K) : HV s K e := by
  obtain ⟨b1, b2, b3, b4⟩ := hB
  refine ⟨b1, b2, fun j u1 u2 u3 => b3 j u1 u3 u2, fun j u1 u2 u3 => ?_, fun u _ => ?_⟩
  · have e1 := b3 j u1 (by omega) (by omega)
    have := hg j u1 u3
    rw [(rAll_0 e1.2.1).1] at this
    rcases this with z | z
    · exact z
    · exact absurd z rBody_6
  · have := (b4 0 (by omega)).1
    have hd := this.1.2
    intro z
    omega
theorem HV_EK {s : Nat → Nat} {K E : Nat} (hV : HV s K E) (hK : 1 ≤ K) (h0 : s 0 = 0) (hs : ∀ i, i < K → s i < 2) (hg : Gd s K) : BE s z0 K E := by
  obtain ⟨e, hB⟩ := BE_K z0 K hK h0 hs hg
  have := HV_u (BE_HK hB hg) hV
  rw [← this]
  exact hB
theorem m_answers {fu n K E : Nat} {s : Nat → Nat} {M : mwM} {L : mwL} (hfu : 1300 ≤ fu) (hn : n < 7) (h836 : M 836 n = sI K) (hse : ∀ i, i < K → M 837 (1200 * n + i) = sI (s i)) (h0 : s 0 = 0) (hV : CaV s K E) (hg : Gd s K) (hC : CA M) : wq (DX12_answers fu (sI n) M L) (fun z => z.1 = bI (decide (putK (hq s K) = 0)) ∧ z.2.2 = L ∧ bF M z.2.1 ∧ CA z.2.1) := by
  obtain ⟨k1, k2, k3, hHV⟩ := hV
  have hV : CaV s K E := ⟨k1, k2, k3, hHV⟩
  have hB := HV_EK hHV k1 h0 k3 hg
  obtain ⟨b1, b2, b3, b4⟩ := hB
  unfold DX12_answers fX12_answers_b51 fX12_answers_b52
  refine wq_b3 (m_body hfu hn h836 hse h0 hV hC) ?_
  rintro r M1 L1 ⟨y1, y2, y3, y4⟩
  dsimp only at y1 y2 y3 y4
  subst y1
  simp only [mzz_0, mzz_1]
  have hca := CAs_CA hV y3
  have hcas := y3
  obtain ⟨y5, y6, y7⟩ := y3
  rw [y4] at y7
  have pk1 : putK (hq s K) = 1 → wq (some ((0 : Int32), M1, L1)) (fun z => z.1 = bI (decide (putK (hq s K) = 0)) ∧ z.2.2 = L1 ∧ bF M z.2.1 ∧ CA z.2.1) := fun z => by
    rw [z]
    exact wq_some ⟨rfl, rfl, y2, hca⟩
  rcases y7 with ⟨z1, z2, z3⟩ | ⟨z1, z2, z3, z4, z5⟩ | ⟨z1, z2, z3⟩
  · exfalso
    have e1 := b3 (E - 1) (by omega) (by omega) (by omega)
    have := hg (E - 1) (by omega) (by omega)
    rw [(rAll_0 e1.2.1).1] at this
    rcases this with z | z
    · exact z2 z
    · exact rBody_6 z
  · subst z3
    obtain ⟨hT, _, _⟩ := b4 (K - E) (by omega)
    rw [show E + (K - E) = K by omega] at hT
    have hD := hT.1
    have hD' := hD
    obtain ⟨⟨e1, e2, e3, e4, e5, e6, _⟩, hd⟩ := hD'
    obtain ⟨w11, w12, w13, _, _, w16, _, w14, _, _, c2, c3, _, _⟩ := PI_b e1
    have k17 : hq s E 17 < 100000 := by
      by_cases y : hq s E 17 < 100000
      · exact y
      · have := c3 (by omega)
        omega
    obtain ⟨m1, m2, m3, m4, m5, m6, m7⟩ := z5
    have wb := Wd_b (hq s E)
    have tl1 : tlH (hq s E) ≤ 32 := by unfold tlH; split <;> omega
    rw [if_pos rfl, z4, if_neg (fun w => sI_m1n (by omega) w.symm), mck_s (by omega) (by omega), m_tail e1 k17 m4 m5, mb3_s, sI_nn (by omega), y2 836 n (by omega) (by omega) (by omega) (by omega), h836, sI_add, sI_1]
    -- where the answer stands
    have main : ∀ i, hq s K 1 = 2 → hq s K 6 = i → K = E + tlH (hq s E) + i → hRight (hq s K) = rgt s E (pq s E) (hq s E) → wq (if sI K = sI (E + tlH (hq s E) + 1) then mb3 (DX12_right fu (sI n) M1 L1) (fun r14 M12 L13 => if r14 = 0 then some ((0 : Int32), M12, L13) else some (1, M12, L13)) else some (0, M1, L1)) (fun z => z.1 = bI (decide (putK (hq s K) = 0)) ∧ z.2.2 = L1 ∧ bF M z.2.1 ∧ CA z.2.1) := by
      intro i h1 h6 hi hR
      by_cases q : i = 1
      · rw [if_pos (by rw [hi, q])]
        refine wq_b3 (m_right (L := L1) hfu hn hD (by omega) ⟨m1, m2, m3, m4, m5, m6, m7⟩ z4 (fun i u => k3 i (by omega)) (fun c i u => ?_)) ?_
        · have tw : tlH (hq s E) = Wd (hq s E) := if_pos c
          exact ⟨by rw [y2 837 _ (by omega) (by omega) (by omega) (by omega)]; exact hse i (by omega), k3 i (by omega)⟩
        rintro r2 M2 L2 ⟨t1, t2, t3, t4⟩
        dsimp only at t1 t2 t3 t4
        subst t2
        have bf2 : bF M M2 := bF_t y2 (fun a y u1 u2 u3 u4 => t4 a y (by omega) u3)
        have ca2 := CA_right hV z1 hcas t3 t4
        rw [t1, ← hR]
        unfold putK
        rw [h1, h6, q]
        cases hr : hRight (hq s K) with
        | false =>
          rw [if_pos (show bI false = 0 from rfl), if_neg (fun z => by cases z.2.2)]
          exact wq_some ⟨rfl, rfl, bf2, ca2⟩
        | true =>
          rw [if_neg (show ¬ bI true = 0 by decide), if_pos ⟨rfl, rfl, rfl⟩]
          exact wq_some ⟨rfl, rfl, bf2, ca2⟩
      · rw [if_neg (by rw [sI_eq (by omega) (by omega)]; omega)]
        apply pk1
        unfold putK
        rw [if_neg (fun z => by omega)]
    rcases hT.2 with ⟨d1, d2, d3⟩ | ⟨d1, d2, d3, d4, d5⟩ | ⟨d1, g, d2, d3, d4, d5, d6⟩
    · have tl : tlH (hq s E) = 0 := if_neg (by omega)
      exact main (K - E) (by rw [d2]; show hq s E 1 = 2; omega) (by rw [d2, nst_s]) (by omega) (by rw [d2]; exact (show hRight (hq s E) = _ from hR_nf hD d1))
    · have tl : tlH (hq s E) = Wd (hq s E) := if_pos d1
      rw [tl, if_neg (by rw [sI_eq (by omega) (by omega)]; omega)]
      apply pk1
      unfold putK
      rw [if_neg (fun z => by omega)]
    · have tl : tlH (hq s E) = Wd (hq s E) := if_pos d1
      exact main (K - E - Wd (hq s E)) (by rw [d6]; exact d3) (by rw [d6, nst_s]) (by omega) (by rw [d6]; exact (show hRight g = _ from hR_fx d2 d1))
  · subst z2
    rw [if_pos rfl, z3, if_pos rfl]
    apply pk1
    unfold putK
    have := (b3 K k1 (by omega) (by omega)).2.1
    rw [if_neg (fun z => by omega)]
theorem kd_from : ∀ e, e < 2 → ∀ f, f < 2 → ∀ r, r < 2 → (if sI (kdE e f r) = 2 then (22 : Int32) else if sI (kdE e f r) = 3 then 41 else if (sI (kdE e f r) - sI (kdE e f r) / 2 * 2) = 1 then 39 else 19) = sI (caE e f + 4) ∧ kdE e f r < 8 := by decide
theorem nb_kd : ∀ x, x < 128 → vp_nar .byte ((sI x).toInt8.toInt32) = sI x := by decide +kernel
def bt8 (x : Nat) : Int32 := vp_nar .byte ((sI x).toInt8.toInt32)
theorem bt8_u : ∀ x, x < 256 → bt8 x &&& 255 = sI x := by decide +kernel
def TkR (M M' : mwM) (n tk : Nat) (p h : Nat → Nat) : Prop := M' 839 tk = sI n ∧ M' 840 tk = sI (h 10) ∧ M' 841 tk = sI (kdH h) ∧ M' 842 tk = sI (h 14) ∧ M' 843 tk = M 821 2 ∧ (∀ i, i < h 16 → M' 844 (64 * tk + i) = bt8 (num p (h 15 + 4 + 8 * i) 8)) ∧ M' 821 22 = sI (tk + 1) ∧ ∀ a y, ¬ (a = 821 ∧ (y = 22 ∨ y = 34 ∨ (41 ≤ y ∧ y ≤ 46) ∨ y = 48 ∨ y = 49)) → ¬ (839 ≤ a ∧ a ≤ 843 ∧ y = tk) → ¬ (a = 844 ∧ 64 * tk ≤ y ∧ y < 64 * tk + 64) → a ≠ 848 → a ≠ 852 → a ≠ 853 → M' a y = M a y
theorem CA_fr {M M' : mwM} (h : CA M) (hf : ∀ a y, (a = 821 ∧ (y = 34 ∨ (41 ≤ y ∧ y ≤ 46) ∨ y = 48 ∨ y = 49)) ∨ a = 848 ∨ a = 852 ∨ a = 853 → M' a y = M a y) : CA M' := by
  rcases h with h | ⟨t, kc, E, h1, h2, h3, h4⟩
  · exact Or.inl (by rw [hf 821 48 (by omega)]; exact h)
  · refine Or.inr ⟨t, kc, E, h1, by rw [hf 821 48 (by omega)]; exact h2, fun i u => by rw [hf 853 i (by omega)]; exact h3 i u, ?_⟩
    rw [hf 821 49 (by omega)]
    exact BR_fr h4 (fun a y u => hf a y (by omega))
theorem m_take12 {fu n K E tk : Nat} {s : Nat → Nat} {M : mwM} {L : mwL} (hfu : 1300 ≤ fu) (hn : n < 7) (h836 : M 836 n = sI K) (hse : ∀ i, i < K → M 837 (1200 * n + i) = sI (s i)) (h0 : s 0 = 0) (hV : CaV s K E) (hE : E ≤ K - 1) (hg : Gd s (K - 1)) (hC : CA M) (h834 : M 834 n = 0) (h835 : M 835 n = 0) (h22 : M 821 22 = sI tk) (htk : tk < 4000) : wq (DX12_take fu (sI n) M L) (fun z => z.2 = L ∧ TkR M z.1 n tk (pq s E) (hq s E) ∧ CA z.1) := by
  obtain ⟨k1, k2, k3, hHV⟩ := hV
  have hV : CaV s K E := ⟨k1, k2, k3, hHV⟩
  have e2' := hHV.1
  obtain ⟨hT, hD, hr0⟩ := HV_ET hHV hE (by omega) h0 k3 hg
  unfold DX12_take fX12_take_b146
  refine wq_b3 (m_body hfu hn h836 hse h0 hV hC) ?_
  rintro r M1 L1 ⟨y1, y2, y3, y4⟩
  dsimp only at y1 y2 y3 y4
  subst y1
  have hca := CAs_CA hV y3
  obtain ⟨y5, y6, y7⟩ := y3
  rw [y4] at y7
  rcases y7 with ⟨z1, z2, z3⟩ | ⟨z1, z2, z3, z4, z5⟩ | ⟨z1, z2, z3⟩
  · exact absurd hr0 z2
  · obtain ⟨⟨e1, e2, e3, e4, e5, e6, _⟩, hd⟩ := hD
    obtain ⟨w11, w12, w13, _, _, w16, _, w14, _, _, c2, c3, _, c5⟩ := PI_b e1
    have k17 : hq s E 17 < 100000 := by
      by_cases y : hq s E 17 < 100000
      · exact y
      · have := c3 (by omega)
        omega
    have kk := c2 k17
    have e15 : hq s E 15 = caE (hq s E 12) (hq s E 13) := by
      have i5 := (PI_x.mp e1).2.2.2.2.1
      by_cases w : atE (hq s E 12) < hq s E 5
      · rw [if_pos w] at i5
        exact i5
      · rw [if_neg w] at i5
        omega
    have e16 := PI_16 e1 k17
    have bits := (PI_x.mp e1).1
    obtain ⟨m1, m2, m3, m4, m5, m6, m7⟩ := z5
    obtain ⟨kf1, kf2⟩ := kd_from _ w12 _ w13 _ w11
    have p22 : M1 821 22 = sI tk := by rw [y2 821 22 (by omega) (by omega) (by omega) (by omega)]; exact h22
    rw [mck_s (by omega) (by omega), mck_s (by omega) (by omega), sI_nn (by omega), y2 834 n (by omega) (by omega) (by omega) (by omega), h834, y2 835 n (by omega) (by omega) (by omega) (by omega), h835, show ∀ x : Int32, x &&& 0 = 0 from fun x => Int32.and_zero, if_pos rfl]
    simp only [mlet]
    simp (disch := omega) only [p22, mck_s, sI_nn, mset_n, m4, m5, m6]
    unfold kdH
    rw [nb_kd _ (by omega), nb_kd _ (by omega), m_octetsOf w12 w13 w11 w14, mb3_s, ← e16, y2 821 2 (by omega) (by omega) (by omega) (by omega)]
    simp (disch := omega) only [mset_n, m4]
    unfold kdH
    generalize hM2 : mset (mset (mset (mset (mset M1 839 tk (sI n)) 840 tk (sI (hq s E 10))) 841 tk (sI (kdE (hq s E 12) (hq s E 13) (hq s E 11)))) 842 tk (sI (hq s E 14))) 843 tk (M 821 2) = M2
    have pf : ∀ a y, ¬ (839 ≤ a ∧ a ≤ 843 ∧ y = tk) → M2 a y = M1 a y := fun a y u => by
      rw [← hM2]
      simp (disch := omega) only [mset_n]
    have pv : M2 839 tk = sI n ∧ M2 840 tk = sI (hq s E 10) ∧ M2 841 tk = sI (kdH (hq s E)) ∧ M2 842 tk = sI (hq s E 14) ∧ M2 843 tk = M 821 2 := by
      rw [← hM2]
      unfold kdH
      simp (disch := omega) only [mset_n, mset_s]
      exact ⟨(by first | trivial | rfl), (by first | trivial | rfl), (by first | trivial | rfl), (by first | trivial | rfl), (by first | trivial | rfl)⟩
    have q22 : M2 821 22 = sI tk := by rw [pf 821 22 (by omega)]; exact p22
    -- the octets
    have loop : wq (fX12_take_h151 fu (sI n) fu (sI (hq s E 16), sI (caE (hq s E 12) (hq s E 13) + 4), 0, M2, L1)) (fun z => z.2 = L1 ∧ TkR M z.1 n tk (pq s E) (hq s E) ∧ CA z.1) := by
      refine wq_for (body := fun f z => fX12_take_i151 fu (sI n) f z.1 z.2.1 z.2.2.1 z.2.2.2.1 z.2.2.2.2) (fun j (x : mwM) => (sI (hq s E 16), sI (caE (hq s E 12) (hq s E 13) + 4), sI j, x, L1)) (fun j x => (∀ i, i < j → x 844 (64 * tk + i) = bt8 (num (pq s E) (hq s E 15 + 4 + 8 * i) 8)) ∧ ∀ a y, ¬ (a = 844 ∧ 64 * tk ≤ y ∧ y < 64 * tk + 64) → x a y = M2 a y) (hq s E 16) ?_ ?_ (hq s E 16) 0 M2 fu (by omega) (by omega) ⟨fun i u => by omega, fun _ _ _ => rfl⟩
      · intro j x f hj ⟨x1, x2⟩ ih
        show wq (fX12_take_i151 fu (sI n) f (sI (hq s E 16)) (sI (caE (hq s E 12) (hq s E 13) + 4)) (sI j) x L1) _
        unfold fX12_take_i151
        have nm : DX12_number fu (sI (caE (hq s E 12) (hq s E 13) + 4 + 8 * j)) 8 x L1 = some (sI (num (pq s E) (caE (hq s E 12) (hq s E 13) + 4 + 8 * j) 8), x, L1) := m_number (n := 8) (by omega) (by omega) (fun i u1 u2 => by rw [x2 848 i (by omega), pf 848 i (by omega)]; exact m2 i (by omega))
        rw [if_neg (by rw [sI_le (by omega) (by omega)]; omega), sI_lml, sI_add, nm, mb3_s, x2 821 22 (by omega), q22, sI_lml, sI_add, mck_s (by omega) (by omega), sI_nn (by omega)]
        simp only [mlet]
        rw [sI_1]
        refine ih _ ⟨fun i u => ?_, fun a y u => ?_⟩
        · by_cases q : i = j
          · rw [q, mset_s, e15]
            rfl
          · rw [mset_n (by omega)]
            exact x1 i (by omega)
        · rw [mset_n (by omega)]
          exact x2 a y u
      · intro x f ⟨x1, x2⟩
        show wq (fX12_take_i151 fu (sI n) f (sI (hq s E 16)) (sI (caE (hq s E 12) (hq s E 13) + 4)) (sI (hq s E 16)) x L1) _
        unfold fX12_take_i151
        rw [if_pos (by rw [sI_le (by omega) (by omega)]; omega), x2 821 22 (by omega), q22, sI_1]
        simp only [mlet]
        refine wq_some ⟨rfl, ⟨?_, ?_, ?_, ?_, ?_, fun i u => ?_, ?_, fun a y u1 u2 u3 u4 u5 u6 => ?_⟩, ?_⟩
        · dsimp only
          rw [mset_n (by omega), x2 839 tk (by omega)]; exact pv.1
        · dsimp only
          rw [mset_n (by omega), x2 840 tk (by omega)]; exact pv.2.1
        · dsimp only
          rw [mset_n (by omega), x2 841 tk (by omega)]; exact pv.2.2.1
        · dsimp only
          rw [mset_n (by omega), x2 842 tk (by omega)]; exact pv.2.2.2.1
        · dsimp only
          rw [mset_n (by omega), x2 843 tk (by omega)]; exact pv.2.2.2.2
        · dsimp only
          rw [mset_n (by omega)]; exact x1 i u
        · dsimp only
          rw [mset_s]
        · dsimp only
          rw [mset_n (by omega), x2 a y u3, pf a y u2]
          exact y2 a y (by omega) u4 u5 u6
        · dsimp only
          exact CA_fr hca (fun a y u => by rw [mset_n (by omega), x2 a y (by omega), pf a y (by omega)])
    rw [← kf1] at loop
    generalize kdE (hq s E 12) (hq s E 13) (hq s E 11) = kd at *
    by_cases g1 : sI kd = 2
    · rw [if_pos g1] at loop
      rw [if_pos g1]
      exact loop
    · rw [if_neg g1] at loop
      rw [if_neg g1]
      by_cases g2 : sI kd = 3
      · rw [if_pos g2] at loop
        rw [if_pos g2]
        exact loop
      · rw [if_neg g2] at loop
        rw [if_neg g2]
        by_cases g3 : (sI kd - sI kd / 2 * 2) = 1
        · rw [if_pos g3] at loop
          rw [if_pos g3]
          exact loop
        · rw [if_neg g3] at loop
          rw [if_neg g3]
          exact loop
  · omega
/-! frames on the wire: pure -/
def pbF (id : Nat) (oc : Nat → Nat) (i : Nat) : Nat := if i < 19 then (if 1 ≤ i ∧ i ≤ 11 then id / 2 ^ (11 - i) % 2 else if i = 15 then 1 else 0) else oc ((i - 19) / 8) / 2 ^ (7 - (i - 19) % 8) % 2
def ckF (id : Nat) (oc : Nat → Nat) : Nat := crcF (2 ^ 14) 17817 0 (pbF id oc) 83
def fbF (id : Nat) (oc : Nat → Nat) (i : Nat) : Nat := if i < 83 then pbF id oc i else ckF id oc / 2 ^ (14 - (i - 83)) % 2
theorem pbF_lt (id : Nat) (oc : Nat → Nat) (i : Nat) : pbF id oc i < 2 := by
  unfold pbF
  split
  · split
    · exact Nat.mod_lt _ (by decide)
    · split <;> omega
  · exact Nat.mod_lt _ (by decide)
theorem fbF_lt (id : Nat) (oc : Nat → Nat) (i : Nat) : fbF id oc i < 2 := by
  unfold fbF
  split
  · exact pbF_lt _ _ _
  · exact Nat.mod_lt _ (by decide)
theorem ckF_lt (id : Nat) (oc : Nat → Nat) : ckF id oc < 32768 := crcF15_lt _
/-- the number of bits on the wire, like bits at the end, the last bit -/
def lyN (f : Nat → Nat) : Nat → Nat × Nat × Nat
  | 0 => (0, 0, 1)
  | j + 1 => if (if f j = (lyN f j).2.2 then (lyN f j).2.1 + 1 else 1) = 5 then ((lyN f j).1 + 2, 1, 1 - f j) else ((lyN f j).1 + 1, (if f j = (lyN f j).2.2 then (lyN f j).2.1 + 1 else 1), f j)
def lyS (f : Nat → Nat) (j : Nat) : Nat := if f j = (lyN f j).2.2 then (lyN f j).2.1 + 1 else 1
def lyR (f : Nat → Nat) : Nat → Nat → Nat
  | 0 => z0
  | j + 1 => if lyS f j = 5 then nst (nst (lyR f j) (lyN f j).1 (f j)) ((lyN f j).1 + 1) (1 - f j) else nst (lyR f j) (lyN f j).1 (f j)
/-- stuff bits, and bits that may be lost -/
def lyF (f : Nat → Nat) : Nat → Nat → Nat
  | 0 => z0
  | j + 1 => if lyS f j = 5 then nst (nst (lyF f j) (lyN f j).1 0) ((lyN f j).1 + 1) 1 else nst (lyF f j) (lyN f j).1 0
def lyG (f : Nat → Nat) : Nat → Nat → Nat
  | 0 => z0
  | j + 1 => if lyS f j = 5 then nst (nst (lyG f j) (lyN f j).1 (if j ≤ 13 then 1 else 0)) ((lyN f j).1 + 1) 0 else nst (lyG f j) (lyN f j).1 (if j ≤ 13 then 1 else 0)
theorem lyN_5 {f : Nat → Nat} {j : Nat} (h : lyS f j = 5) : lyN f (j + 1) = ((lyN f j).1 + 2, 1, 1 - f j) := if_pos h
theorem lyN_n {f : Nat → Nat} {j : Nat} (h : ¬ lyS f j = 5) : lyN f (j + 1) = ((lyN f j).1 + 1, lyS f j, f j) := if_neg h
theorem lyR_5 {f : Nat → Nat} {j : Nat} (h : lyS f j = 5) : lyR f (j + 1) = nst (nst (lyR f j) (lyN f j).1 (f j)) ((lyN f j).1 + 1) (1 - f j) ∧ lyF f (j + 1) = nst (nst (lyF f j) (lyN f j).1 0) ((lyN f j).1 + 1) 1 ∧ lyG f (j + 1) = nst (nst (lyG f j) (lyN f j).1 (if j ≤ 13 then 1 else 0)) ((lyN f j).1 + 1) 0 := ⟨if_pos h, if_pos h, if_pos h⟩
theorem lyR_n {f : Nat → Nat} {j : Nat} (h : ¬ lyS f j = 5) : lyR f (j + 1) = nst (lyR f j) (lyN f j).1 (f j) ∧ lyF f (j + 1) = nst (lyF f j) (lyN f j).1 0 ∧ lyG f (j + 1) = nst (lyG f j) (lyN f j).1 (if j ≤ 13 then 1 else 0) := ⟨if_neg h, if_neg h, if_neg h⟩
theorem nst_a {X : Nat → Nat} {n a b : Nat} : nst (nst X n a) (n + 1) b n = a := by rw [nst_n (by omega), nst_s]
theorem lyN_b {f : Nat → Nat} (hf : ∀ i, f i < 2) : ∀ j, (lyN f j).2.1 ≤ 4 ∧ (lyN f j).2.2 < 2 ∧ j ≤ (lyN f j).1 ∧ 4 * ((lyN f j).1 - j) + (lyN f j).2.1 ≤ j + 1 ∧ (1 ≤ j → 1 ≤ (lyN f j).2.1) := by
  intro j
  induction j with
  | zero => exact ⟨by show 0 ≤ 4; omega, by show 1 < 2; omega, by show 0 ≤ 0; omega, by show 4 * (0 - 0) + 0 ≤ 0 + 1; omega, fun h => by omega⟩
  | succ j ih =>
    obtain ⟨i1, i2, i3, i4, i5⟩ := ih
    have hj := hf j
    have hs : lyS f j ≤ (lyN f j).2.1 + 1 ∧ 1 ≤ lyS f j := by unfold lyS; split <;> omega
    by_cases c : lyS f j = 5
    · rw [lyN_5 c]
      refine ⟨by show 1 ≤ 4; omega, by show 1 - f j < 2; omega, by show j + 1 ≤ (lyN f j).1 + 2; omega, by show 4 * ((lyN f j).1 + 2 - (j + 1)) + 1 ≤ j + 1 + 1; omega, fun _ => by show 1 ≤ 1; omega⟩
    · rw [lyN_n c]
      refine ⟨by show lyS f j ≤ 4; omega, hj, by show j + 1 ≤ (lyN f j).1 + 1; omega, by show 4 * ((lyN f j).1 + 1 - (j + 1)) + lyS f j ≤ j + 1 + 1; omega, fun _ => hs.2⟩
theorem lyN_up {f : Nat → Nat} (j : Nat) : (lyN f j).1 < (lyN f (j + 1)).1 := by
  by_cases c : lyS f j = 5
  · rw [lyN_5 c]; show (lyN f j).1 < (lyN f j).1 + 2; omega
  · rw [lyN_n c]; show (lyN f j).1 < (lyN f j).1 + 1; omega
theorem lyN_le {f : Nat → Nat} (j m : Nat) : (lyN f j).1 + m ≤ (lyN f (j + m)).1 := by
  induction m with
  | zero => exact Nat.le_refl _
  | succ m ih =>
    have := lyN_up (f := f) (j + m)
    show (lyN f j).1 + (m + 1) ≤ (lyN f (j + m + 1)).1
    omega
/-- what was written stays -/
theorem ly_st {f : Nat → Nat} (j m i : Nat) (hi : i < (lyN f j).1) : lyR f (j + m) i = lyR f j i ∧ lyF f (j + m) i = lyF f j i ∧ lyG f (j + m) i = lyG f j i := by
  induction m with
  | zero => exact ⟨rfl, rfl, rfl⟩
  | succ m ih =>
    have := lyN_le (f := f) j m
    show lyR f (j + m + 1) i = _ ∧ lyF f (j + m + 1) i = _ ∧ lyG f (j + m + 1) i = _
    rw [← ih.1, ← ih.2.1, ← ih.2.2]
    by_cases c : lyS f (j + m) = 5
    · obtain ⟨r1, r2, r3⟩ := lyR_5 c
      rw [r1, r2, r3, nst_n (by omega), nst_n (by omega), nst_n (by omega), nst_n (by omega), nst_n (by omega), nst_n (by omega)]
      exact ⟨rfl, rfl, rfl⟩
    · obtain ⟨r1, r2, r3⟩ := lyR_n c
      rw [r1, r2, r3, nst_n (by omega), nst_n (by omega), nst_n (by omega)]
      exact ⟨rfl, rfl, rfl⟩
theorem ly_b {f : Nat → Nat} (hf : ∀ i, f i < 2) : ∀ j i, i < (lyN f j).1 → lyR f j i < 2 ∧ lyF f j i < 2 ∧ lyG f j i < 2 ∧ (lyG f j i = 1 ↔ (lyF f j i = 0 ∧ i < (lyN f 13).1 + 1)) := by
  intro j
  induction j with
  | zero => intro i hi; exact absurd hi (by show ¬ i < 0; omega)
  | succ j ih =>
    intro i hi
    by_cases c0 : i < (lyN f j).1
    · obtain ⟨s1, s2, s3⟩ := ly_st (f := f) j 1 i c0
      rw [s1, s2, s3]
      exact ih i c0
    · have hj := hf j
      have key : ∀ b, b < 2 → ((if j ≤ 13 then 1 else 0 : Nat) = 1 ↔ ((0 : Nat) = 0 ∧ (lyN f j).1 < (lyN f 13).1 + 1)) := fun b _ => by
        by_cases c : j ≤ 13
        · rw [if_pos c]
          have := lyN_le (f := f) j (13 - j)
          rw [show j + (13 - j) = 13 by omega] at this
          omega
        · rw [if_neg c]
          have := lyN_le (f := f) 13 (j - 13)
          rw [show 13 + (j - 13) = j by omega] at this
          omega
      have lt : (if j ≤ 13 then 1 else 0 : Nat) < 2 := by split <;> omega
      by_cases c : lyS f j = 5
      · obtain ⟨r1, r2, r3⟩ := lyR_5 c
        rw [r1, r2, r3]
        rw [lyN_5 c] at hi
        have hi' : i < (lyN f j).1 + 2 := hi
        by_cases d : i = (lyN f j).1
        · rw [d, nst_a, nst_a, nst_a]
          exact ⟨hj, by omega, lt, key 0 (by omega)⟩
        · have : i = (lyN f j).1 + 1 := by omega
          rw [this, nst_s, nst_s, nst_s]
          exact ⟨by omega, by omega, by omega, by omega⟩
      · obtain ⟨r1, r2, r3⟩ := lyR_n c
        rw [lyN_n c] at hi
        have hi' : i < (lyN f j).1 + 1 := hi
        have : i = (lyN f j).1 := by omega
        rw [r1, r2, r3, this, nst_s, nst_s, nst_s]
        exact ⟨hj, by omega, lt, key 0 (by omega)⟩
def wN (f : Nat → Nat) : Nat := (lyN f 98).1
def wR (f : Nat → Nat) (i : Nat) : Nat := if i < wN f then lyR f 98 i else 1
theorem wN_b {f : Nat → Nat} (hf : ∀ i, f i < 2) : 98 ≤ wN f ∧ wN f ≤ 122 := by
  obtain ⟨i1, i2, i3, i4, i5⟩ := lyN_b hf 98
  have := i5 (by omega)
  unfold wN
  omega
theorem wR_lt {f : Nat → Nat} (hf : ∀ i, f i < 2) (i : Nat) : wR f i < 2 := by
  unfold wR
  split
  · exact (ly_b hf 98 i (by assumption)).1
  · omega
/-! the class lays a frame out -/
theorem bitx {x k : Nat} (hx : x < 2000000000) (hk : k < 32) : (sI x >>> (sI k &&& 31)) &&& 1 = sI (x / 2 ^ k % 2) := by
  rw [show sI k &&& 31 = sI k by have := sI_and (a := k) (m := 5); rw [Nat.mod_eq_of_lt (show k < 2 ^ 5 by omega)] at this; exact this, sI_shr hx hk]
  exact sI_and (m := 1)
theorem c_plainBit {fu f i id : Nat} {oc : Nat → Nat} {A : mwM} {L : mwL} (hf : f < 200) (hi : i < 83) (h44 : A 44 f = sI id) (hid : id < 2048) (h46 : ∀ j, j < 8 → A 46 (8 * f + j) = sI (oc j) ∧ oc j < 256) : DX0_plainBit fu (sI f) (sI i) A L = some (sI (pbF id oc i), A, L) := by
  unfold DX0_plainBit fX0_plainBit_b64 fX0_plainBit_b75 pbF
  by_cases c1 : i < 19
  · rw [if_pos (show sI i < 19 by rw [sI_ltl (by omega) (by decide)]; exact c1), if_pos c1]
    have b64 : ¬ (1 ≤ i ∧ i ≤ 11) → (if sI i = 15 then some ((1 : Int32), A, L) else some (0, A, L)) = some (sI (if 1 ≤ i ∧ i ≤ 11 then id / 2 ^ (11 - i) % 2 else if i = 15 then 1 else 0), A, L) := fun z => by
      rw [if_neg z]
      by_cases c : i = 15
      · rw [if_pos (show sI i = 15 by rw [c]; rfl), if_pos c]
        rfl
      · rw [if_neg (show ¬ sI i = 15 by rw [sI_eql (by omega) (by decide)]; exact c), if_neg c]
        rfl
    by_cases c2 : i < 1
    · rw [if_pos (show sI i < 1 by rw [sI_ltl (by omega) (by decide)]; exact c2)]
      exact b64 (by omega)
    · rw [if_neg (show ¬ sI i < 1 by rw [sI_ltl (by omega) (by decide)]; exact c2)]
      by_cases c3 : 11 < i
      · rw [if_pos (show 11 < sI i by rw [sI_llt (by decide) (by omega)]; exact c3)]
        exact b64 (by omega)
      · rw [if_neg (show ¬ 11 < sI i by rw [sI_llt (by decide) (by omega)]; exact c3), mck_s hf (by omega), sI_nn (by omega), h44, show (11 : Int32) - sI i = sI (11 - i) from sI_sub (a := 11) (by omega), bitx (by omega) (by omega), if_pos (by omega)]
  · obtain ⟨o1, o2⟩ := h46 ((i - 19) / 8) (by omega)
    rw [if_neg (show ¬ sI i < 19 by rw [sI_ltl (by omega) (by decide)]; exact c1), if_neg c1, show sI i - 19 = sI (i - 19) from sI_sub (b := 19) (by omega), show sI (i - 19) - sI (i - 19) / 8 * 8 = sI ((i - 19) % 8) from sI_mod (b := 8) (by omega) (by omega), show sI (i - 19) / 8 = sI ((i - 19) / 8) from sI_div (b := 8) (by omega) (by omega), sI_lml, sI_add, mck_s (by omega) (by omega), sI_nn (by omega), o1, show (7 : Int32) - sI ((i - 19) % 8) = sI (7 - (i - 19) % 8) from sI_sub (a := 7) (by omega), bitx (by omega) (by omega)]
def WvR (A : mwM) (n : Nat) (f : Nat → Nat) : Prop := (∀ i, i < wN f → A (34 + n) i = sI (lyR f 98 i + 2 * lyG f 98 i)) ∧ (∀ i, wN f ≤ i → i < wN f + 10 → A (34 + n) i = sI 1) ∧ A 29 n = sI (wN f + 10)
theorem or2 : ∀ b, b < 2 → sI b ||| 0 = sI (b + 2 * 0) ∧ sI b ||| 2 = sI (b + 2 * 1) := by decide
theorem c_layOut {fu n f id : Nat} {oc : Nat → Nat} {A : mwM} {L : mwL} (hfu : 200 ≤ fu) (hn : n < 7) (hf : f < 200) (h44 : A 44 f = sI id) (hid : id < 2048) (h46 : ∀ j, j < 8 → A 46 (8 * f + j) = sI (oc j) ∧ oc j < 256) : wq (DX0_layOut fu (sI n) (sI f) A L) (fun z => z.2 = L ∧ WvR z.1 n (fbF id oc) ∧ ∀ a y, a ≠ 34 + n → ¬ (a = 29 ∧ y = n) → z.1 a y = A a y) := by
  have wb := wN_b (f := fbF id oc) (fbF_lt id oc)
  unfold DX0_layOut
  refine wq_for (body := fun r z => fX0_layOut_i14 fu (sI n) (sI f) r z.1 z.2.1 z.2.2.1 z.2.2.2.1 z.2.2.2.2.1 z.2.2.2.2.2.1 z.2.2.2.2.2.2) (fun j (x : mwM) => (sI (lyN (fbF id oc) j).1, sI (crcF (2 ^ 14) 17817 0 (pbF id oc) (min j 83)), sI (lyN (fbF id oc) j).2.1, sI (lyN (fbF id oc) j).2.2, sI j, x, L)) (fun j x => (∀ i, i < (lyN (fbF id oc) j).1 → x (34 + n) i = sI (lyR (fbF id oc) j i + 2 * lyG (fbF id oc) j i)) ∧ ∀ a y, a ≠ 34 + n → x a y = A a y) 98 ?_ ?_ 98 0 A fu (by omega) (by omega) ⟨fun i u => absurd u (by show ¬ i < 0; omega), fun _ _ _ => rfl⟩
  · intro j x r hj ⟨x1, x2⟩ ih
    show wq (fX0_layOut_i14 fu (sI n) (sI f) r (sI (lyN (fbF id oc) j).1) (sI (crcF (2 ^ 14) 17817 0 (pbF id oc) (min j 83))) (sI (lyN (fbF id oc) j).2.1) (sI (lyN (fbF id oc) j).2.2) (sI j) x L) _
    obtain ⟨i1, i2, i3, i4, i5⟩ := lyN_b (f := fbF id oc) (fbF_lt id oc) j
    have hb := fbF_lt id oc j
    have cl := crcF15_lt (s := pbF id oc) (min j 83)
    -- the bit, and the check behind it
    have b74 : wq (fX0_layOut_b74 fu (sI n) (sI f) r (sI (lyN (fbF id oc) j).1) (sI (crcF (2 ^ 14) 17817 0 (pbF id oc) (min (j + 1) 83))) (sI (lyN (fbF id oc) j).2.1) (sI (lyN (fbF id oc) j).2.2) (sI j) (sI (fbF id oc j)) x L) (fun z => z.2 = L ∧ WvR z.1 n (fbF id oc) ∧ ∀ a y, a ≠ 34 + n → ¬ (a = 29 ∧ y = n) → z.1 a y = A a y) := by
      generalize hcc : crcF (2 ^ 14) 17817 0 (pbF id oc) (min (j + 1) 83) = cc at *
      generalize hfb : fbF id oc = fb at *
      generalize hlen : (lyN fb j).1 = len at *
      unfold fX0_layOut_b74
      have b95 : ∀ y, (if j ≤ 13 then 1 else 0) = y → wq (fX0_layOut_b95 fu (sI n) (sI f) r (sI len) (sI cc) (sI (lyN fb j).2.1) (sI (lyN fb j).2.2) (sI j) (sI (fb j)) (34 + n) (sI len) (sI (fb j)) (sI (2 * y)) x L) (fun z => z.2 = L ∧ WvR z.1 n fb ∧ ∀ a y, a ≠ 34 + n → ¬ (a = 29 ∧ y = n) → z.1 a y = A a y) := by
        intro y hy
        have hy2 : y < 2 := by rw [← hy]; split <;> omega
        have ob : sI (fb j) ||| sI (2 * y) = sI (fb j + 2 * y) := by
          have := or2 (fb j) hb
          rcases (show y = 0 ∨ y = 1 by omega) with rfl | rfl
          · exact this.1
          · exact this.2
        unfold fX0_layOut_b95
        rw [mck_s (by omega) (by omega), sI_nn (by omega), ob]
        simp only [mlet]
        rw [sI_1, sI_1]
        have b115 : wq (fX0_layOut_b115 fu (sI n) (sI f) r (sI (len + 1)) (sI cc) (sI j) (sI (fb j)) (sI (lyS fb j)) (mset x (34 + n) len (sI (fb j + 2 * y))) L) (fun z => z.2 = L ∧ WvR z.1 n fb ∧ ∀ a y, a ≠ 34 + n → ¬ (a = 29 ∧ y = n) → z.1 a y = A a y) := by
          have sl : lyS fb j ≤ 5 := by unfold lyS; split <;> omega
          unfold fX0_layOut_b115 fX0_layOut_b149
          simp only [mlet]
          by_cases c : lyS fb j = 5
          · obtain ⟨r1, r2, r3⟩ := lyR_5 c
            have rn := lyN_5 c
            rw [hlen] at r1 r2 r3 rn
            rw [if_pos (show sI (lyS fb j) = 5 by rw [c]; rfl), mck_s hn (by omega), mck_s (by omega) (by omega), sI_nn (by omega), sI_nn (by omega), show (1 : Int32) - sI (fb j) = sI (1 - fb j) from sI_sub (a := 1) (by omega), sI_1, sI_1]
            have := ih (mset (mset x (34 + n) len (sI (fb j + 2 * y))) (34 + n) (len + 1) (sI (1 - fb j))) ?_
            · rw [rn] at this
              exact this
            · rw [rn, r1, r3]
              refine ⟨fun i u => ?_, fun a b u => by rw [mset_n (by omega), mset_n (by omega)]; exact x2 a b u⟩
              have u' : i < len + 2 := u
              by_cases d : i = len + 1
              · rw [d, mset_s, nst_s, nst_s]
                rfl
              · rw [mset_n (by omega)]
                by_cases e : i = len
                · rw [e, mset_s, nst_a, nst_a, hy]
                · rw [mset_n (by omega), nst_n (by omega), nst_n (by omega), nst_n (by omega), nst_n (by omega)]
                  exact x1 i (by omega)
          · obtain ⟨r1, r2, r3⟩ := lyR_n c
            have rn := lyN_n c
            rw [hlen] at r1 r2 r3 rn
            rw [if_neg (show ¬ sI (lyS fb j) = 5 by rw [sI_eql (by omega) (by decide)]; exact c), sI_1]
            have := ih (mset x (34 + n) len (sI (fb j + 2 * y))) ?_
            · rw [rn] at this
              exact this
            · rw [rn, r1, r3]
              refine ⟨fun i u => ?_, fun a b u => by rw [mset_n (by omega)]; exact x2 a b u⟩
              have u' : i < len + 1 := u
              by_cases e : i = len
              · rw [e, mset_s, nst_s, nst_s, hy]
              · rw [mset_n (by omega), nst_n (by omega), nst_n (by omega)]
                exact x1 i (by omega)
        unfold lyS at b115
        by_cases c : fb j = (lyN fb j).2.2
        · rw [if_pos (show sI (fb j) = sI (lyN fb j).2.2 by rw [← c])]
          rw [if_pos c] at b115
          exact b115
        · rw [if_neg (show ¬ sI (fb j) = sI (lyN fb j).2.2 by rw [sI_eq (by omega) (by omega)]; exact c)]
          rw [if_neg c] at b115
          exact b115
      rw [mck_s hn (by omega), sI_nn (by omega)]
      by_cases c : j ≤ 13
      · rw [if_neg (show ¬ 13 < sI j by rw [sI_llt (by decide) (by omega)]; omega)]
        exact b95 1 (if_pos c)
      · rw [if_pos (show 13 < sI j by rw [sI_llt (by decide) (by omega)]; omega)]
        exact b95 0 (if_neg c)
    unfold fX0_layOut_i14 fX0_layOut_b51
    rw [if_neg (show ¬ 98 ≤ sI j by rw [sI_lle (by decide) (by omega)]; omega)]
    by_cases c : 83 ≤ j
    · rw [if_pos (show 83 ≤ sI j by rw [sI_lle (by decide) (by omega)]; exact c), if_pos (show 83 ≤ sI j by rw [sI_lle (by decide) (by omega)]; exact c), show sI j - 83 = sI (j - 83) from sI_sub (b := 83) (by omega), show (14 : Int32) - sI (j - 83) = sI (14 - (j - 83)) from sI_sub (a := 14) (by omega), bitx (by omega) (by omega)]
      rw [show min j 83 = 83 by omega]
      rw [show min (j + 1) 83 = 83 by omega] at b74
      have e : fbF id oc j = crcF (2 ^ 14) 17817 0 (pbF id oc) 83 / 2 ^ (14 - (j - 83)) % 2 := by
        unfold fbF
        rw [if_neg (by omega)]
        rfl
      rw [e] at b74
      exact b74
    · have e : fbF id oc j = pbF id oc j := by
        unfold fbF
        rw [if_pos (by omega)]
      have pb := c_plainBit (fu := fu) (A := x) (L := L) (id := id) (oc := oc) hf (show j < 83 by omega) (by rw [x2 44 f (by omega)]; exact h44) hid (fun i u => by rw [x2 46 _ (by omega)]; exact h46 i u)
      have n83 : ¬ 83 ≤ sI j := by rw [sI_lle (by decide) (by omega)]; exact c
      rw [if_neg n83, pb, mb3_s, if_neg n83, c_crc15 cl (pbF_lt id oc j), mb3_s]
      rw [show min (j + 1) 83 = min j 83 + 1 by omega] at b74
      have e2 : crcF (2 ^ 14) 17817 0 (pbF id oc) (min j 83 + 1) = c15 (crcF (2 ^ 14) 17817 0 (pbF id oc) (min j 83)) (pbF id oc j) := by
        show crcS (2 ^ 14) 17817 (crcF (2 ^ 14) 17817 0 (pbF id oc) (min j 83)) (pbF id oc (min j 83)) = _
        rw [show min j 83 = j by omega]
        rfl
      rw [e2, e] at b74
      exact b74
  · intro x r ⟨x1, x2⟩
    show wq (fX0_layOut_i14 fu (sI n) (sI f) r (sI (lyN (fbF id oc) 98).1) (sI (crcF (2 ^ 14) 17817 0 (pbF id oc) (min 98 83))) (sI (lyN (fbF id oc) 98).2.1) (sI (lyN (fbF id oc) 98).2.2) (sI 98) x L) _
    unfold fX0_layOut_i14
    rw [if_pos (by decide)]
    show wq (fX0_layOut_h158 fu (sI n) (sI f) fu (sI (wN (fbF id oc)), 0, x, L)) _
    generalize hfb : fbF id oc = fb at *
    have x1' : ∀ i, i < wN fb → x (34 + n) i = sI (lyR fb 98 i + 2 * lyG fb 98 i) := x1
    generalize hlen : wN fb = len at *
    refine wq_for (body := fun r z => fX0_layOut_i158 fu (sI n) (sI f) r z.1 z.2.1 z.2.2.1 z.2.2.2) (fun j (y : mwM) => (sI len, sI j, y, L)) (fun j y => (∀ i, i < len → y (34 + n) i = sI (lyR fb 98 i + 2 * lyG fb 98 i)) ∧ (∀ i, len ≤ i → i < len + j → y (34 + n) i = sI 1) ∧ ∀ a b, a ≠ 34 + n → y a b = A a b) 10 ?_ ?_ 10 0 x fu (by omega) (by omega) ⟨x1', fun i u1 u2 => by omega, x2⟩
    · intro j y r hj ⟨y1, y2, y3⟩ ih
      show wq (fX0_layOut_i158 fu (sI n) (sI f) r (sI len) (sI j) y L) _
      unfold fX0_layOut_i158
      rw [if_neg (by rw [sI_lle (by decide) (by omega)]; omega), mck_s hn (by omega), sI_add, mck_s (by omega) (by omega), sI_nn (by omega), sI_nn (by omega)]
      simp only [mlet]
      rw [sI_1]
      refine ih _ ⟨fun i u => by rw [mset_n (by omega)]; exact y1 i u, fun i u1 u2 => ?_, fun a b u => by rw [mset_n (by omega)]; exact y3 a b u⟩
      by_cases d : i = len + j
      · rw [d, mset_s]
        rfl
      · rw [mset_n (by omega)]
        exact y2 i u1 (by omega)
    · intro y r ⟨y1, y2, y3⟩
      show wq (fX0_layOut_i158 fu (sI n) (sI f) r (sI len) (sI 10) y L) _
      unfold fX0_layOut_i158
      rw [if_pos (by decide), mck_s hn (by omega), sI_nn (by omega), show sI len + 10 = sI (len + 10) from sI_add (b := 10)]
      simp only [mlet]
      refine wq_some ⟨rfl, ⟨fun i u => ?_, fun i u1 u2 => ?_, ?_⟩, fun a b u1 u2 => ?_⟩
      · dsimp only
        rw [mset_n (by omega)]
        exact y1 i (by omega)
      · dsimp only
        rw [mset_n (by omega)]
        exact y2 i (by omega) (by omega)
      · dsimp only
        rw [mset_s, hlen]
      · dsimp only
        rw [mset_n u2]
        exact y3 a b u1
/-! the reference writes a frame -/
def kdn (n i : Nat) : Int32 := sI n - 1 - sI i
theorem kdn_1 {n i : Nat} (hi : i < n) : kdn n i = sI (n - 1 - i) := by
  unfold kdn
  rw [show sI n - 1 = sI (n - 1) from sI_sub (b := 1) (by omega), sI_sub (by omega)]
theorem kdn_n (n : Nat) : kdn (n + 1) n + (-1) = -1 := by
  unfold kdn
  rw [show sI (n + 1) - 1 = sI n from sI_m1, show sI n - sI n = sI 0 by rw [sI_sub (Nat.le_refl n), Nat.sub_self]]
  rfl
/-- v's lowest n bits, the highest first -/
theorem m_bits {fu v n P : Nat} {M : mwM} {L : mwL} (hfu : n < fu) (hn : n ≤ 31) (hn1 : 1 ≤ n) (hv : v < 2000000000) (hP : M 821 34 = sI P) (hPl : P + n ≤ 700) : wq (DX12_bits fu (sI v) (sI n) M L) (fun z => z.2 = L ∧ z.1 821 34 = sI (P + n) ∧ (∀ i, i < n → z.1 848 (P + i) = sI (v / 2 ^ (n - 1 - i) % 2)) ∧ ∀ a y, ¬ (a = 821 ∧ y = 34) → ¬ (a = 848 ∧ P ≤ y) → z.1 a y = M a y) := by
  unfold DX12_bits
  simp only [mlet]
  have st0 : sI n - 1 = (if 0 < n then sI (n - 1 - 0) else -1) := by
    rw [if_pos (by omega), Nat.sub_zero]
    exact sI_sub (b := 1) (by omega)
  rw [st0]
  refine wq_for (body := fun r z => fX12_bits_i4 fu (sI v) (sI n) r z.1 z.2.1 z.2.2) (fun j (x : mwM) => ((if j < n then sI (n - 1 - j) else -1), x, L)) (fun j x => x 821 34 = sI (P + j) ∧ (∀ i, i < j → x 848 (P + i) = sI (v / 2 ^ (n - 1 - i) % 2)) ∧ ∀ a y, ¬ (a = 821 ∧ y = 34) → ¬ (a = 848 ∧ P ≤ y) → x a y = M a y) n ?_ ?_ n 0 M fu (by omega) (by omega) ⟨hP, fun i u => by omega, fun _ _ _ _ => rfl⟩
  · intro j x r hj ⟨x1, x2, x3⟩ ih
    show wq (fX12_bits_i4 fu (sI v) (sI n) r (if j < n then sI (n - 1 - j) else -1) x L) _
    unfold fX12_bits_i4
    rw [if_pos hj, if_neg (show ¬ sI (n - 1 - j) < 0 by rw [sI_ltl (by omega) (by decide)]; omega), x1, mck_s (by omega) (by omega), sI_nn (by omega), bitx hv (by omega), nb2 _ (Nat.mod_lt _ (by decide))]
    simp only [mlet]
    rw [mset_n (show ¬ (821 = 848 ∧ 34 = P + j) by omega), x1, sI_1]
    have e : sI (n - 1 - j) + (-1) = (if j + 1 < n then sI (n - 1 - (j + 1)) else -1) := by
      by_cases c : j + 1 < n
      · rw [if_pos c, show n - 1 - j = (n - 1 - (j + 1)) + 1 by omega]
        exact sI_pm
      · rw [if_neg c, show n - 1 - j = 0 by omega]
        rfl
    rw [e]
    refine ih _ ⟨mset_s, fun i u => ?_, fun a y u1 u2 => ?_⟩
    · rw [mset_n (by omega)]
      by_cases q : i = j
      · rw [q, mset_s]
      · rw [mset_n (by omega)]
        exact x2 i (by omega)
    · rw [mset_n (by omega), mset_n (by omega)]
      exact x3 a y u1 u2
  · intro x r ⟨x1, x2, x3⟩
    show wq (fX12_bits_i4 fu (sI v) (sI n) r (if n < n then sI (n - 1 - n) else -1) x L) _
    unfold fX12_bits_i4
    rw [if_neg (Nat.lt_irrefl n), if_pos (show (-1 : Int32) < 0 by decide)]
    exact wq_some ⟨rfl, x1, x2, x3⟩
def FrM1 (M : mwM) (f id : Nat) (oc : Nat → Nat) : Prop := M 824 f = sI id ∧ M 825 f = 0 ∧ M 826 f = 8 ∧ ∀ i, i < 8 → M 827 (64 * f + i) = sI (oc i) ∧ oc i < 256
theorem pb_8 : ∀ i, i < 4 → (8 : Nat) / 2 ^ (4 - 1 - i) % 2 = if i = 0 then 1 else 0 := by decide
theorem m_writePlain {fu f id : Nat} {oc : Nat → Nat} {M : mwM} {L : mwL} (hfu : 200 ≤ fu) (hf : f < 200) (hid : id < 2048) (hF : FrM1 M f id oc) : wq (DX12_writePlain fu (sI f) M L) (fun z => z.2 = L ∧ z.1 821 34 = sI 83 ∧ (∀ i, i < 83 → z.1 848 i = sI (pbF id oc i)) ∧ z.1 821 48 = -1 ∧ ∀ a y, ¬ (a = 821 ∧ (y = 34 ∨ y = 48)) → a ≠ 848 → z.1 a y = M a y) := by
  obtain ⟨h824, h825, h826, h827⟩ := hF
  unfold DX12_writePlain fX12_writePlain_b22 fX12_writePlain_b48 fX12_writePlain_b64
  simp only [mlet]
  simp (disch := omega) only [mck_s, sI_nn, mset_n, h825]
  simp (decide := true) only [ite_true, ite_false]
  have p34 : (mset (mset M 821 48 (-1)) 821 34 0) 821 34 = sI 0 := by rw [mset_s]; rfl
  -- 1
  have B1 := m_bits (fu := fu) (v := 0) (n := 1) (P := 0) (M := mset (mset M 821 48 (-1)) 821 34 0) (L := L) (by omega) (by omega) (by omega) (by omega) p34 (by omega)
  refine wq_b2 B1 ?_
  rintro M1 L1 ⟨a1, a2, a3, a4⟩
  dsimp only at a1 a2 a3 a4
  subst a1
  unfold fX12_writePlain_b100
  simp (decide := true) only [ite_true, ite_false]
  have r824 : M1 824 f = sI id := by rw [a4 824 f (by omega) (by omega), mset_n (by omega), mset_n (by omega)]; exact h824
  rw [r824]
  refine wq_b2 (m_bits (v := id) (n := 11) (P := 1) (L := L1) (by omega) (by omega) (by omega) (by omega) a2 (by omega)) ?_
  rintro M2 L2 ⟨b1, b2, b3, b4⟩
  dsimp only at b1 b2 b3 b4
  subst b1
  refine wq_b2 (m_bits (v := 0) (n := 1) (P := 12) (L := L2) (by omega) (by omega) (by omega) (by omega) b2 (by omega)) ?_
  rintro M3 L3 ⟨c1, c2, c3, c4⟩
  dsimp only at c1 c2 c3 c4
  subst c1
  refine wq_b2 (m_bits (v := 0) (n := 1) (P := 13) (L := L3) (by omega) (by omega) (by omega) (by omega) c2 (by omega)) ?_
  rintro M4 L4 ⟨d1, d2, d3, d4⟩
  dsimp only at d1 d2 d3 d4
  subst d1
  unfold fX12_writePlain_b159 fX12_writePlain_b184
  simp (decide := true) only [ite_true, ite_false]
  refine wq_b2 (m_bits (v := 0) (n := 1) (P := 14) (L := L4) (by omega) (by omega) (by omega) (by omega) d2 (by omega)) ?_
  rintro M5 L5 ⟨e1, e2, e3, e4⟩
  dsimp only at e1 e2 e3 e4
  subst e1
  unfold fX12_writePlain_b187
  have f5 : ∀ a y, ¬ (a = 821 ∧ (y = 34 ∨ y = 48)) → a ≠ 848 → M5 a y = M a y := fun a y u1 u2 => by
    rw [e4 a y (by omega) (by omega), d4 a y (by omega) (by omega), c4 a y (by omega) (by omega), b4 a y (by omega) (by omega), a4 a y (by omega) (by omega), mset_n (by omega), mset_n (by omega)]
  have k5 : M5 821 48 = -1 := by
    rw [e4 821 48 (by omega) (by omega), d4 821 48 (by omega) (by omega), c4 821 48 (by omega) (by omega), b4 821 48 (by omega) (by omega), a4 821 48 (by omega) (by omega), mset_n (by omega), mset_s]
  rw [mck_s hf (by omega), sI_nn (by omega), f5 826 f (by omega) (by omega), h826]
  refine wq_b2 (m_bits (v := 8) (n := 4) (P := 15) (L := L5) (by omega) (by omega) (by omega) (by omega) e2 (by omega)) ?_
  rintro M6 L6 ⟨g1, g2, g3, g4⟩
  dsimp only at g1 g2 g3 g4
  subst g1
  have f6 : ∀ a y, ¬ (a = 821 ∧ (y = 34 ∨ y = 48)) → a ≠ 848 → M6 a y = M a y := fun a y u1 u2 => by rw [g4 a y (by omega) (by omega), f5 a y u1 u2]
  have k6 : M6 821 48 = -1 := by rw [g4 821 48 (by omega) (by omega)]; exact k5
  have head : ∀ i, i < 19 → M6 848 i = sI (pbF id oc i) := by
    intro i hi
    unfold pbF
    rw [if_pos hi]
    by_cases z1 : i < 1
    · have : i = 0 := by omega
      subst this
      rw [g4 848 0 (by omega) (by omega), e4 848 0 (by omega) (by omega), d4 848 0 (by omega) (by omega), c4 848 0 (by omega) (by omega), b4 848 0 (by omega) (by omega)]
      exact a3 0 (by omega)
    · by_cases z2 : i ≤ 11
      · rw [g4 848 i (by omega) (by omega), e4 848 i (by omega) (by omega), d4 848 i (by omega) (by omega), c4 848 i (by omega) (by omega), if_pos (by omega)]
        have := b3 (i - 1) (by omega)
        rw [show 1 + (i - 1) = i by omega, show 11 - 1 - (i - 1) = 11 - i by omega] at this
        exact this
      · rw [if_neg (by omega)]
        by_cases z3 : i = 12
        · subst z3
          rw [g4 848 12 (by omega) (by omega), e4 848 12 (by omega) (by omega), d4 848 12 (by omega) (by omega)]
          exact c3 0 (by omega)
        · by_cases z4 : i = 13
          · subst z4
            rw [g4 848 13 (by omega) (by omega), e4 848 13 (by omega) (by omega)]
            exact d3 0 (by omega)
          · by_cases z5 : i = 14
            · subst z5
              rw [g4 848 14 (by omega) (by omega)]
              exact e3 0 (by omega)
            · have := g3 (i - 15) (by omega)
              rw [show 15 + (i - 15) = i by omega, pb_8 (i - 15) (by omega)] at this
              rw [this]
              by_cases z6 : i = 15
              · rw [if_pos (by omega), if_pos z6]
              · rw [if_neg (by omega), if_neg z6]
  refine wq_for (body := fun r z => fX12_writePlain_i201 fu (sI f) r z.1 z.2.1 z.2.2) (fun j (x : mwM) => (sI j, x, L6)) (fun j x => x 821 34 = sI (19 + 8 * j) ∧ (∀ i, i < 19 + 8 * j → x 848 i = sI (pbF id oc i)) ∧ x 821 48 = -1 ∧ ∀ a y, ¬ (a = 821 ∧ (y = 34 ∨ y = 48)) → a ≠ 848 → x a y = M a y) 8 ?_ ?_ 8 0 M6 fu (by omega) (by omega) ⟨g2, head, k6, f6⟩
  · intro j x r hj ⟨x1, x2, x3, x4⟩ ih
    show wq (fX12_writePlain_i201 fu (sI f) r (sI j) x L6) _
    unfold fX12_writePlain_i201
    have oo : DX12_octetsOf fu (sI 0) (sI 8) x L6 = some (sI 8, x, L6) := m_octetsOf (e := 0) (f := 0) (r := 0) (c := 8) (by omega) (by omega) (by omega) (by omega)
    obtain ⟨o1, o2⟩ := h827 j hj
    rw [mck_s hf (by omega), mck_s hf (by omega), sI_nn (by omega), x4 825 f (by omega) (by omega), h825, x4 826 f (by omega) (by omega), h826]
    rw [show (0 : Int32) = sI 0 from rfl, show (8 : Int32) = sI 8 from rfl, oo, mb3_s, if_neg (show ¬ sI 8 ≤ sI j by rw [sI_le (by omega) (by omega)]; omega), sI_lml, sI_add, mck_s (by omega) (by omega), sI_nn (by omega), x4 827 _ (by omega) (by omega), o1]
    refine wq_b2 (m_bits (v := oc j) (n := 8) (P := 19 + 8 * j) (L := L6) (by omega) (by omega) (by omega) (by omega) x1 (by omega)) ?_
    rintro Y L7 ⟨y1, y2, y3, y4⟩
    dsimp only at y1 y2 y3 y4
    subst y1
    simp only [mlet]
    rw [sI_1]
    refine ih _ ⟨by rw [y2]; rfl, fun i u => ?_, by rw [y4 821 48 (by omega) (by omega)]; exact x3, fun a y u1 u2 => by rw [y4 a y (by omega) (by omega)]; exact x4 a y u1 u2⟩
    by_cases z : i < 19 + 8 * j
    · rw [y4 848 i (by omega) (by omega)]
      exact x2 i z
    · have := y3 (i - (19 + 8 * j)) (by omega)
      rw [show 19 + 8 * j + (i - (19 + 8 * j)) = i by omega] at this
      rw [this]
      unfold pbF
      rw [if_neg (by omega), show (i - 19) / 8 = j by omega, show 8 - 1 - (i - (19 + 8 * j)) = 7 - (i - 19) % 8 by omega]
  · intro x r ⟨x1, x2, x3, x4⟩
    show wq (fX12_writePlain_i201 fu (sI f) r (sI 8) x L6) _
    unfold fX12_writePlain_i201
    have oo : DX12_octetsOf fu (sI 0) (sI 8) x L6 = some (sI 8, x, L6) := m_octetsOf (e := 0) (f := 0) (r := 0) (c := 8) (by omega) (by omega) (by omega) (by omega)
    rw [mck_s hf (by omega), mck_s hf (by omega), sI_nn (by omega), x4 825 f (by omega) (by omega), h825, x4 826 f (by omega) (by omega), h826]
    rw [show (0 : Int32) = sI 0 from rfl, show (8 : Int32) = sI 8 from rfl, oo, mb3_s, if_pos (show sI 8 ≤ sI 8 by decide)]
    exact wq_some ⟨rfl, x1, x2, x3, x4⟩
/-! the reference's row of bits -/
theorem m_put12 {fu R b c : Nat} {M : mwM} {L : mwL} (hR : M 821 37 = sI R) (hR2 : R < 1200) (hb : b < 2) (hc : c < 2) : DX12_put fu (sI b) (sI c) M L = some (mset (mset (mset M 849 R (sI b)) 850 R (sI c)) 821 37 (sI (R + 1)), L) := by
  unfold DX12_put
  have nz : ∀ c, c < 2 → vp_nar .boolean (sI c) = sI c := by decide
  simp only [mlet]
  rw [hR, mck_s hR2 (by omega), sI_nn (by omega), nb2 b hb, mset_n (show ¬ (821 = 849 ∧ 37 = R) by omega), hR, mck_s hR2 (by omega), sI_nn (by omega), nz c hc, mset_n (show ¬ (821 = 850 ∧ 37 = R) by omega), mset_n (show ¬ (821 = 849 ∧ 37 = R) by omega), hR, sI_1]
/-- the run of like bits at the end -/
def RunI (R F : Nat → Nat) (len same last : Nat) : Prop := same ≤ len ∧ (∀ t, t < same → R (len - 1 - t) = last) ∧ (∀ t, t + 1 < same → F (len - 1 - t) = 0) ∧ (1 ≤ same → len - same = 0 ∨ F (len - same) = 1 ∨ R (len - same - 1) ≠ R (len - same))
theorem Run_p {R F : Nat → Nat} {len same last b : Nat} (h : RunI R F len same last) (h0 : 1 ≤ same ∨ len = 0) : RunI (nst R len b) (nst F len 0) (len + 1) (if b = last then same + 1 else 1) b := by
  obtain ⟨r1, r2, r3, r4⟩ := h
  by_cases c : b = last
  · rw [if_pos c]
    refine ⟨by omega, fun t u => ?_, fun t u => ?_, fun _ => ?_⟩
    · by_cases z : t = 0
      · rw [z, show len + 1 - 1 - 0 = len by omega, nst_s]
      · rw [show len + 1 - 1 - t = len - 1 - (t - 1) by omega, nst_n (by omega), c]
        exact r2 (t - 1) (by omega)
    · by_cases z : t = 0
      · rw [z, show len + 1 - 1 - 0 = len by omega, nst_s]
      · rw [show len + 1 - 1 - t = len - 1 - (t - 1) by omega, nst_n (by omega)]
        exact r3 (t - 1) (by omega)
    · rw [show len + 1 - (same + 1) = len - same by omega]
      by_cases z : 1 ≤ same
      · rcases r4 z with w | w | w
        · exact Or.inl w
        · exact Or.inr (Or.inl (by rw [nst_n (by omega)]; exact w))
        · exact Or.inr (Or.inr (by rw [nst_n (by omega), nst_n (by omega)]; exact w))
      · left
        omega
  · rw [if_neg c]
    refine ⟨by omega, fun t u => ?_, fun t u => by omega, fun _ => ?_⟩
    · have : t = 0 := by omega
      rw [this, show len + 1 - 1 - 0 = len by omega, nst_s]
    · rw [show len + 1 - 1 = len by omega]
      by_cases z : len = 0
      · exact Or.inl z
      · right
        right
        rw [nst_s, nst_n (by omega)]
        have := r2 0 (by omega)
        rw [show len - 1 - 0 = len - 1 by omega] at this
        omega
theorem Run_s {R F : Nat → Nat} {len b : Nat} : RunI (nst R (len + 1) b) (nst F (len + 1) 1) (len + 2) 1 b := by
  refine ⟨by omega, fun t u => ?_, fun t u => by omega, fun _ => Or.inr (Or.inl ?_)⟩
  · have : t = 0 := by omega
    rw [this, show len + 2 - 1 - 0 = len + 1 by omega, nst_s]
  · rw [show len + 2 - 1 = len + 1 by omega, nst_s]
theorem Run_j {f : Nat → Nat} (hf : ∀ i, f i < 2) : ∀ j, RunI (lyR f j) (lyF f j) (lyN f j).1 (lyN f j).2.1 (lyN f j).2.2 := by
  intro j
  induction j with
  | zero => exact ⟨by show 0 ≤ 0; omega, fun t u => absurd u (by show ¬ t < 0; omega), fun t u => absurd u (by show ¬ t + 1 < 0; omega), fun u => absurd u (by show ¬ 1 ≤ 0; omega)⟩
  | succ j ih =>
    have i5 := (lyN_b hf j).2.2.2.2
    have h0 : 1 ≤ (lyN f j).2.1 ∨ (lyN f j).1 = 0 := by
      by_cases z : 1 ≤ j
      · exact Or.inl (i5 z)
      · right
        rw [show j = 0 by omega]
        rfl
    have p := Run_p (b := f j) ih h0
    by_cases c : lyS f j = 5
    · obtain ⟨r1, r2, r3⟩ := lyR_5 c
      rw [lyN_5 c, r1, r2]
      exact Run_s
    · obtain ⟨r1, r2, r3⟩ := lyR_n c
      rw [lyN_n c, r1, r2]
      exact p
theorem m_five {fu len same last : Nat} {R F : Nat → Nat} {M : mwM} {L : mwL} (hfu : 10 ≤ fu) (hr : RunI R F len same last) (hs1 : 1 ≤ same) (hs5 : same ≤ 5) (hlen : len < 1200) (h37 : M 821 37 = sI len) (hM : ∀ i, i < len → M 849 i = sI (R i) ∧ R i < 2 ∧ M 850 i = sI (F i) ∧ F i < 2) : DX12_five fu M L = some (bI (decide (same = 5)), M, L) := by
  obtain ⟨r1, r2, r3, r4⟩ := hr
  unfold DX12_five
  simp only [mlet]
  rw [h37, show sI len - 1 = sI (len - 1) from sI_sub (b := 1) (by omega)]
  have stop : fX12_five_b53 fu (sI same) M L = some (bI (decide (same = 5)), M, L) := by
    unfold fX12_five_b53 fX12_five_b63
    simp only [mzz_0, mzz_1]
    by_cases c : same = 5
    · rw [if_pos (show sI same = 5 by rw [c]; rfl), decide_eq_true c]
      rfl
    · rw [if_neg (show ¬ sI same = 5 by rw [sI_eql (by omega) (by decide)]; exact c), decide_eq_false c]
      rfl
  have key : ∀ (m t f : Nat), t + 1 + m = same → m < f → fX12_five_h9 fu f (sI (t + 1), sI (len - 1 - t), M, L) = some (bI (decide (same = 5)), M, L) := by
    intro m
    induction m with
    | zero =>
      intro t f ht hf1
      obtain ⟨g, rfl⟩ : ∃ g, f = g + 1 := ⟨f - 1, by omega⟩
      unfold fX12_five_h9
      rw [mloop_S]
      show fX12_five_i9 fu _ (sI (t + 1)) (sI (len - 1 - t)) M L = _
      have ts : t + 1 = same := by omega
      have e : len - 1 - t = len - same := by omega
      rw [ts, e]
      unfold fX12_five_i9
      rw [stop]
      by_cases c1 : len - same = 0
      · rw [if_pos (show sI (len - same) ≤ 0 by rw [c1]; decide)]
      · rw [if_neg (show ¬ sI (len - same) ≤ 0 by rw [sI_lel (by omega) (by decide)]; omega), mck_s (by omega) (by omega), show sI (len - same) - 1 = sI (len - same - 1) from sI_sub (b := 1) (by omega), mck_s (by omega) (by omega), sI_nn (by omega), sI_nn (by omega)]
        obtain ⟨a1, a2, a3, a4⟩ := hM (len - same) (by omega)
        obtain ⟨b1, b2, _, _⟩ := hM (len - same - 1) (by omega)
        rw [a1, b1]
        by_cases c2 : R (len - same) = R (len - same - 1)
        · rw [if_pos (by rw [c2]), mck_s (by omega) (by omega), a3]
          have c3 : F (len - same) = 1 := by
            rcases r4 hs1 with w | w | w
            · omega
            · exact w
            · omega
          rw [if_neg (show ¬ sI (F (len - same)) = 0 by rw [c3]; decide)]
        · rw [if_neg (by rw [sI_eq (by omega) (by omega)]; exact c2)]
    | succ m ih =>
      intro t f ht hf1
      obtain ⟨g, rfl⟩ : ∃ g, f = g + 1 := ⟨f - 1, by omega⟩
      unfold fX12_five_h9
      rw [mloop_S]
      show fX12_five_i9 fu (fX12_five_h9 fu g) (sI (t + 1)) (sI (len - 1 - t)) M L = _
      unfold fX12_five_i9
      obtain ⟨a1, a2, a3, a4⟩ := hM (len - 1 - t) (by omega)
      obtain ⟨b1, b2, _, _⟩ := hM (len - 1 - t - 1) (by omega)
      have e1 := r2 t (by omega)
      have e2 := r2 (t + 1) (by omega)
      rw [show len - 1 - (t + 1) = len - 1 - t - 1 by omega] at e2
      rw [if_neg (show ¬ sI (len - 1 - t) ≤ 0 by rw [sI_lel (by omega) (by decide)]; omega), mck_s (by omega) (by omega), show sI (len - 1 - t) - 1 = sI (len - 1 - t - 1) from sI_sub (b := 1) (by omega), mck_s (by omega) (by omega), sI_nn (by omega), sI_nn (by omega), a1, b1, if_pos (by rw [e1, e2]), mck_s (by omega) (by omega), a3, r3 t (by omega), if_pos (show sI 0 = 0 from rfl), if_neg (show ¬ 5 ≤ sI (t + 1) by rw [sI_lle (by decide) (by omega)]; omega)]
      simp only [mlet]
      rw [sI_1, show sI (len - 1 - t) + (-1) = sI (len - 1 - (t + 1)) by rw [show len - 1 - t = (len - 1 - (t + 1)) + 1 by omega]; exact sI_pm]
      exact ih (t + 1) g (by omega) (by omega)
  exact key (same - 1) 0 fu (by omega) (by omega)
def WrM (M : mwM) (f : Nat → Nat) : Prop := M 821 37 = sI (wN f + 10) ∧ (∀ i, i < wN f + 10 → M 849 i = sI (wR f i) ∧ M 850 i = sI (if i < wN f then lyF f 98 i else 0)) ∧ M 821 38 = sI ((lyN f 13).1 + 1)
def wF (M M' : mwM) : Prop := ∀ a y, ¬ (a = 821 ∧ (y = 34 ∨ y = 37 ∨ y = 38 ∨ y = 41 ∨ y = 48)) → a ≠ 848 → a ≠ 849 → a ≠ 850 → a ≠ 852 → M' a y = M a y
theorem m_writeAnew {fu f id : Nat} {oc : Nat → Nat} {M : mwM} {L : mwL} (hfu : 200 ≤ fu) (hf : f < 200) (hid : id < 2048) (hF : FrM1 M f id oc) : wq (DX12_writeAnew fu (sI f) M L) (fun z => z.2 = L ∧ WrM z.1 (fbF id oc) ∧ z.1 821 48 = -1 ∧ wF M z.1) := by
  unfold DX12_writeAnew
  refine wq_b2 (m_writePlain (L := L) hfu hf hid hF) ?_
  rintro M1 L1 ⟨a1, a2, a3, a4, a5⟩
  dsimp only at a1 a2 a3 a4 a5
  subst a1
  have q825 : M1 825 f = 0 := by rw [a5 825 f (by omega) (by omega)]; exact hF.2.1
  unfold fX12_writeAnew_b30 fX12_writeAnew_b50 fX12_writeAnew_b87
  simp only [mlet]
  simp (disch := omega) only [mck_s, sI_nn, q825]
  simp (decide := true) only [ite_true, ite_false]
  have wb := wN_b (f := fbF id oc) (fbF_lt id oc)
  -- the sum
  refine wq_for (body := fun r z => fX12_writeAnew_i105 fu (sI f) r z.1 z.2.1 z.2.2.1 z.2.2.2.1 z.2.2.2.2.1 z.2.2.2.2.2.1 z.2.2.2.2.2.2) (fun j (x : mwM) => (0, 13, 15, 0, sI j, x, L1)) (fun j x => x 821 41 = sI j ∧ (∀ i, i < j → x 852 i = sI (pbF id oc i)) ∧ x 821 37 = sI 0 ∧ ∀ a y, ¬ (a = 821 ∧ (y = 41 ∨ y = 37)) → a ≠ 852 → x a y = M1 a y) 83 ?_ ?_ 83 0 (mset (mset M1 821 37 0) 821 41 0) fu (by omega) (by omega) ⟨by rw [mset_s]; rfl, fun i u => by omega, by rw [mset_n (by omega), mset_s]; rfl, fun a y u1 u2 => by rw [mset_n (by omega), mset_n (by omega)]⟩
  · intro j x r hj ⟨x1, x2, x3, x4⟩ ih
    show wq (fX12_writeAnew_i105 fu (sI f) r 0 13 15 0 (sI j) x L1) _
    unfold fX12_writeAnew_i105
    rw [x4 821 34 (by omega) (by omega), a2, if_neg (by rw [sI_le (by omega) (by omega)]; omega), mck_s (by omega) (by omega), sI_nn (by omega), x4 848 j (by omega) (by omega), a3 j hj, m_check x1 (by omega) (pbF_lt _ _ _), mb2_s]
    simp only [mlet]
    rw [sI_1]
    refine ih _ ⟨mset_s, fun i u => ?_, by rw [mset_n (by omega), mset_n (by omega)]; exact x3, fun a y u1 u2 => by rw [mset_n (by omega), mset_n (by omega)]; exact x4 a y u1 u2⟩
    rw [mset_n (by omega)]
    by_cases q : i = j
    · rw [q, mset_s]
    · rw [mset_n (by omega)]
      exact x2 i (by omega)
  · intro x r ⟨x1, x2, x3, x4⟩
    show wq (fX12_writeAnew_i105 fu (sI f) r 0 13 15 0 (sI 83) x L1) _
    unfold fX12_writeAnew_i105 fX12_writeAnew_b162
    have co : DX12_checkOf fu 15 x L1 = some (sI (ckF id oc), x, L1) := m_checkOf (w := 15) (c := 83) (s := pbF id oc) (by omega) (by omega) x1 (by omega) (fun i u => ⟨x2 i u, pbF_lt _ _ _⟩)
    rw [x4 821 34 (by omega) (by omega), a2, if_pos (by decide), co, mb3_s]
    simp only [mlet]
    rw [mset_n (show ¬ (821 = 821 ∧ 34 = 41) by omega), x4 821 34 (by omega) (by omega), a2, if_pos True.intro]
    have ckl := ckF_lt id oc
    refine wq_b2 (m_bits (v := ckF id oc) (n := 15) (P := 83) (M := mset x 821 41 0) (L := L1) (by omega) (by omega) (by omega) (by omega) (by rw [mset_n (by omega), x4 821 34 (by omega) (by omega), a2]) (by omega)) ?_
    rintro M2 L2 ⟨b1, b2, b3, b4⟩
    dsimp only at b1 b2 b3 b4
    subst b1
    have pl : ∀ i, i < 98 → M2 848 i = sI (fbF id oc i) := fun i u => by
      unfold fbF
      by_cases z : i < 83
      · rw [if_pos z, b4 848 i (by omega) (by omega), mset_n (by omega), x4 848 i (by omega) (by omega)]
        exact a3 i z
      · rw [if_neg z]
        have := b3 (i - 83) (by omega)
        rw [show 83 + (i - 83) = i by omega, show 15 - 1 - (i - 83) = 14 - (i - 83) by omega] at this
        exact this
    have fM2 : ∀ a y, ¬ (a = 821 ∧ (y = 34 ∨ y = 37 ∨ y = 41 ∨ y = 48)) → a ≠ 848 → a ≠ 852 → M2 a y = M a y := fun a y u1 u2 u3 => by
      rw [b4 a y (by omega) (by omega), mset_n (by omega), x4 a y (by omega) u3]
      exact a5 a y (by omega) u2
    have k48 : M2 821 48 = -1 := by rw [b4 821 48 (by omega) (by omega), mset_n (by omega), x4 821 48 (by omega) (by omega)]; exact a4
    have k37 : M2 821 37 = sI 0 := by rw [b4 821 37 (by omega) (by omega), mset_n (by omega)]; exact x3
    have k41 : M2 821 41 = sI 0 := by rw [b4 821 41 (by omega) (by omega), mset_s]; rfl
    clear x1 x2 x3 x4 b3 b4 co
    -- the row
    have hlt := fbF_lt id oc
    generalize fbF id oc = fb at *
    refine wq_for (body := fun r z => fX12_writeAnew_i165 fu (sI f) r z.1 z.2.1 z.2.2.1 z.2.2.2.1 z.2.2.2.2.1 z.2.2.2.2.2.1 z.2.2.2.2.2.2.1 z.2.2.2.2.2.2.2) (fun j (x : mwM) => (0, 13, 15, sI ((lyN fb j).1 - j), sI 83, sI j, x, L2)) (fun j x => x 821 37 = sI (lyN fb j).1 ∧ x 821 41 = sI (lyN fb j).1 ∧ (∀ i, i < (lyN fb j).1 → x 849 i = sI (lyR fb j i) ∧ x 850 i = sI (lyF fb j i)) ∧ (14 ≤ j → x 821 38 = sI ((lyN fb 13).1 + 1)) ∧ ∀ a y, ¬ (a = 821 ∧ (y = 37 ∨ y = 38 ∨ y = 41)) → a ≠ 849 → a ≠ 850 → a ≠ 852 → x a y = M2 a y) 98 ?_ ?_ 98 0 M2 fu (by omega) (by omega) ⟨k37, k41, fun i u => absurd u (by show ¬ i < 0; omega), fun u => by omega, fun _ _ _ _ _ _ => rfl⟩
    · intro j x r hj ⟨x1, x2, x3, x4, x5⟩ ih
      show wq (fX12_writeAnew_i165 fu (sI f) r 0 13 15 (sI ((lyN fb j).1 - j)) (sI 83) (sI j) x L2) _
      obtain ⟨i1, i2, i3, i4, i5⟩ := lyN_b hlt j
      have run := Run_j hlt j
      have lb := ly_b hlt j
      have h0 : 1 ≤ (lyN fb j).2.1 ∨ (lyN fb j).1 = 0 := by
        by_cases z : 1 ≤ j
        · exact Or.inl (i5 z)
        · right
          rw [show j = 0 by omega]
          rfl
      have rp := Run_p (b := fb j) run h0
      have hbj := hlt j
      have sl : 1 ≤ lyS fb j ∧ lyS fb j ≤ 5 := by unfold lyS; split <;> omega
      generalize hlen : (lyN fb j).1 = len at *
      unfold fX12_writeAnew_i165
      have pj : x 848 j = sI (fb j) := by rw [x5 848 j (by omega) (by omega) (by omega) (by omega)]; exact pl j hj
      have pt := m_put12 (fu := fu) (L := L2) (c := 0) x1 (by omega) hbj (by omega)
      rw [x5 821 34 (by omega) (by omega) (by omega) (by omega), b2, if_neg (show ¬ sI (83 + 15) ≤ sI j by rw [sI_le (by omega) (by omega)]; omega), mck_s (by omega) (by omega), sI_nn (by omega), pj, show (0 : Int32) = sI 0 from rfl, pt, mb2_s, mck_s (by omega) (by omega)]
      generalize hX1 : mset (mset (mset x 849 len (sI (fb j))) 850 len (sI 0)) 821 37 (sI (len + 1)) = X1
      have f1 : ∀ a y, ¬ (a = 821 ∧ y = 37) → ¬ (a = 849 ∧ y = len) → ¬ (a = 850 ∧ y = len) → X1 a y = x a y := fun a y u1 u2 u3 => by rw [← hX1, mset_n u1, mset_n u3, mset_n u2]
      have v37 : X1 821 37 = sI (len + 1) := by rw [← hX1, mset_s]
      have vR : ∀ i, i < len + 1 → X1 849 i = sI (nst (lyR fb j) len (fb j) i) ∧ nst (lyR fb j) len (fb j) i < 2 ∧ X1 850 i = sI (nst (lyF fb j) len 0 i) ∧ nst (lyF fb j) len 0 i < 2 := fun i u => by
        by_cases z : i = len
        · rw [z, nst_s, nst_s, ← hX1]
          refine ⟨?_, hbj, ?_, by omega⟩
          · rw [mset_n (by omega), mset_n (by omega), mset_s]
          · rw [mset_n (by omega), mset_s]
        · rw [nst_n z, nst_n z, f1 849 i (by omega) (by omega) (by omega), f1 850 i (by omega) (by omega) (by omega)]
          obtain ⟨l1, l2, l3, _⟩ := lb i (by omega)
          exact ⟨(x3 i (by omega)).1, l1, (x3 i (by omega)).2, l2⟩
      rw [f1 848 j (by omega) (by omega) (by omega), pj, m_check (M := X1) (by rw [f1 821 41 (by omega) (by omega) (by omega)]; exact x2) (by omega) hbj, mb2_s]
      generalize hX2 : mset (mset X1 852 len (sI (fb j))) 821 41 (sI (len + 1)) = X2
      have f2 : ∀ a y, ¬ (a = 821 ∧ y = 41) → a ≠ 852 → X2 a y = X1 a y := fun a y u1 u2 => by rw [← hX2, mset_n u1, mset_n (by omega)]
      have v41 : X2 821 41 = sI (len + 1) := by rw [← hX2, mset_s]
      -- arbitration, and what follows
      have b215 : ∀ (w : Int32), (13 ≤ j → w = sI ((lyN fb 13).1 + 1)) → wq (fX12_writeAnew_b215 fu (sI f) r (sI 0) 13 15 (sI (len - j)) (sI 83) (sI j) w X2 L2) (fun z => z.2 = L2 ∧ WrM z.1 fb ∧ z.1 821 48 = -1 ∧ wF M z.1) := by
        intro w hw
        unfold fX12_writeAnew_b215
        simp only [mlet]
        have fv := m_five (fu := fu) (L := L2) (M := mset X2 821 38 w) (len := len + 1) (by omega) rp sl.1 sl.2 (by omega) (by rw [mset_n (by omega), f2 821 37 (by omega) (by omega)]; exact v37) (fun i u => by
          rw [mset_n (by omega), mset_n (by omega), f2 849 i (by omega) (by omega), f2 850 i (by omega) (by omega)]
          exact vR i u)
        rw [fv, mb3_s]
        have e5 : (if fb j = (lyN fb j).2.2 then (lyN fb j).2.1 + 1 else 1) = lyS fb j := rfl
        rw [e5]
        unfold fX12_writeAnew_b238 fX12_writeAnew_b268
        simp only [mlet]
        by_cases c : lyS fb j = 5
        · obtain ⟨r1, r2, r3⟩ := lyR_5 c
          have rn := lyN_5 c
          rw [hlen] at r1 r2 r3 rn
          have p848 : (mset X2 821 38 w) 848 j = sI (fb j) := by
            rw [mset_n (by omega), f2 848 j (by omega) (by omega), f1 848 j (by omega) (by omega) (by omega)]; exact pj
          have pt2 := m_put12 (fu := fu) (L := L2) (M := mset X2 821 38 w) (R := len + 1) (b := 1 - fb j) (c := 1) (by rw [mset_n (by omega), f2 821 37 (by omega) (by omega)]; exact v37) (by omega) (by omega) (by omega)
          rw [decide_eq_true c, if_neg (show ¬ bI true = 0 by decide), if_pos (show sI 0 = 0 from rfl), mck_s (by omega) (by omega), sI_nn (by omega), p848, show (1 : Int32) - sI (fb j) = sI (1 - fb j) from sI_sub (a := 1) (by omega)]
          rw [show (DX12_put fu (sI (1 - fb j)) 1 (mset X2 821 38 w) L2) = _ from pt2, mb2_s, mck_s (by omega) (by omega)]
          generalize hX3 : mset (mset (mset (mset X2 821 38 w) 849 (len + 1) (sI (1 - fb j))) 850 (len + 1) (sI 1)) 821 37 (sI (len + 1 + 1)) = X3
          have f3 : ∀ a y, ¬ (a = 821 ∧ (y = 37 ∨ y = 38)) → ¬ (a = 849 ∧ y = len + 1) → ¬ (a = 850 ∧ y = len + 1) → X3 a y = X2 a y := fun a y u1 u2 u3 => by rw [← hX3, mset_n (by omega), mset_n u3, mset_n u2, mset_n (by omega)]
          have w37 : X3 821 37 = sI (len + 2) := by rw [← hX3, mset_s]
          have w38 : X3 821 38 = w := by rw [← hX3, mset_n (by omega), mset_n (by omega), mset_n (by omega), mset_s]
          rw [f3 848 j (by omega) (by omega) (by omega), f2 848 j (by omega) (by omega), f1 848 j (by omega) (by omega) (by omega), pj, show (1 : Int32) - sI (fb j) = sI (1 - fb j) from sI_sub (a := 1) (by omega), m_check (M := X3) (by rw [f3 821 41 (by omega) (by omega) (by omega)]; exact v41) (by omega) (show 1 - fb j < 2 by omega), mb2_s, sI_1, sI_1]
          have := ih (mset (mset X3 852 (len + 1) (sI (1 - fb j))) 821 41 (sI (len + 1 + 1))) ?_
          · rw [rn] at this
            dsimp only at this
            rw [show len + 2 - (j + 1) = len - j + 1 by omega] at this
            exact this
          · rw [rn, r1, r2]
            dsimp only
            refine ⟨by rw [mset_n (by omega), mset_n (by omega)]; exact w37, mset_s, fun i u => ?_, fun u => by rw [mset_n (by omega), mset_n (by omega), w38]; exact hw (by omega), fun a y u1 u2 u3 u4 => by rw [mset_n (by omega), mset_n (by omega), f3 a y (by omega) (by omega) (by omega), f2 a y (by omega) u4, f1 a y (by omega) (by omega) (by omega)]; exact x5 a y u1 u2 u3 u4⟩
            rw [mset_n (by omega), mset_n (by omega), mset_n (by omega), mset_n (by omega)]
            by_cases z : i = len + 1
            · rw [z, nst_s, nst_s, ← hX3]
              constructor
              · rw [mset_n (by omega), mset_n (by omega), mset_s]
              · rw [mset_n (by omega), mset_s]
            · rw [nst_n z, nst_n z, f3 849 i (by omega) (by omega) (by omega), f3 850 i (by omega) (by omega) (by omega), f2 849 i (by omega) (by omega), f2 850 i (by omega) (by omega)]
              obtain ⟨l1, _, l3, _⟩ := vR i (by omega)
              exact ⟨l1, l3⟩
        · obtain ⟨r1, r2, r3⟩ := lyR_n c
          have rn := lyN_n c
          rw [hlen] at r1 r2 r3 rn
          rw [decide_eq_false c, if_pos (show bI false = 0 from rfl), sI_1]
          have := ih (mset X2 821 38 w) ?_
          · rw [rn] at this
            dsimp only at this
            rw [show len + 1 - (j + 1) = len - j by omega] at this
            exact this
          · rw [rn, r1, r2]
            dsimp only
            refine ⟨by rw [mset_n (by omega), f2 821 37 (by omega) (by omega)]; exact v37, by rw [mset_n (by omega)]; exact v41, fun i u => ?_, fun u => by rw [mset_s]; exact hw (by omega), fun a y u1 u2 u3 u4 => by rw [mset_n (by omega), f2 a y (by omega) u4, f1 a y (by omega) (by omega) (by omega)]; exact x5 a y u1 u2 u3 u4⟩
            rw [mset_n (by omega), mset_n (by omega), f2 849 i (by omega) (by omega), f2 850 i (by omega) (by omega)]
            obtain ⟨l1, _, l3, _⟩ := vR i u
            exact ⟨l1, l3⟩
      by_cases c13 : j = 13
      · rw [if_pos (show sI j = 13 by rw [c13]; rfl), f2 821 37 (by omega) (by omega), v37]
        refine b215 _ (fun _ => ?_)
        rw [← hlen, c13]
      · rw [if_neg (show ¬ sI j = 13 by rw [sI_eql (by omega) (by decide)]; exact c13), f2 821 38 (by omega) (by omega), f1 821 38 (by omega) (by omega) (by omega)]
        exact b215 _ (fun u => x4 (by omega))
    · intro x r ⟨x1, x2, x3, x4, x5⟩
      show wq (fX12_writeAnew_i165 fu (sI f) r 0 13 15 (sI ((lyN fb 98).1 - 98)) (sI 83) (sI 98) x L2) _
      unfold fX12_writeAnew_i165 fX12_writeAnew_b289
      rw [x5 821 34 (by omega) (by omega) (by omega) (by omega), b2, if_pos (by decide), if_pos rfl]
      have x1' : x 821 37 = sI (wN fb) := x1
      have x3' : ∀ i, i < wN fb → x 849 i = sI (lyR fb 98 i) ∧ x 850 i = sI (lyF fb 98 i) := x3
      refine wq_for (body := fun r z => fX12_writeAnew_i292 fu (sI f) r z.1 z.2.1 z.2.2) (fun j (y : mwM) => (sI j, y, L2)) (fun j y => y 821 37 = sI (wN fb + j) ∧ (∀ i, i < wN fb + j → y 849 i = sI (wR fb i) ∧ y 850 i = sI (if i < wN fb then lyF fb 98 i else 0)) ∧ ∀ a b, ¬ (a = 821 ∧ b = 37) → a ≠ 849 → a ≠ 850 → y a b = x a b) 10 ?_ ?_ 10 0 x fu (by omega) (by omega) ⟨x1', fun i u => ?_, fun _ _ _ _ _ => rfl⟩
      · intro j y r hj ⟨y1, y2, y3⟩ ih
        show wq (fX12_writeAnew_i292 fu (sI f) r (sI j) y L2) _
        unfold fX12_writeAnew_i292
        have pt := m_put12 (fu := fu) (L := L2) (b := 1) (c := 0) y1 (by omega) (by omega) (by omega)
        rw [if_neg (by rw [sI_lle (by decide) (by omega)]; omega), show (DX12_put fu 1 0 y L2) = _ from pt, mb2_s]
        simp only [mlet]
        rw [sI_1]
        refine ih _ ⟨mset_s, fun i u => ?_, fun a b u1 u2 u3 => by rw [mset_n (by omega), mset_n (by omega), mset_n (by omega)]; exact y3 a b u1 u2 u3⟩
        by_cases z : i = wN fb + j
        · rw [z, if_neg (show ¬ wN fb + j < wN fb by omega)]
          unfold wR
          rw [if_neg (show ¬ wN fb + j < wN fb by omega)]
          simp (disch := omega) only [mset_n, mset_s]
          exact ⟨(by first | trivial | rfl), (by first | trivial | rfl)⟩
        · simp (disch := omega) only [mset_n]
          exact y2 i (by omega)
      · intro y r ⟨y1, y2, y3⟩
        show wq (fX12_writeAnew_i292 fu (sI f) r (sI 10) y L2) _
        unfold fX12_writeAnew_i292
        rw [if_pos (by decide)]
        refine wq_some ⟨rfl, ⟨y1, y2, ?_⟩, ?_, fun a b u1 u2 u3 u4 u5 => ?_⟩
        · dsimp only
          rw [y3 821 38 (by omega) (by omega) (by omega)]
          exact x4 (by omega)
        · dsimp only
          rw [y3 821 48 (by omega) (by omega) (by omega), x5 821 48 (by omega) (by omega) (by omega) (by omega)]
          exact k48
        · dsimp only
          rw [y3 a b (by omega) u3 u4, x5 a b (by omega) u3 u4 u5]
          exact fM2 a b (by omega) u2 u5
      · rw [Nat.add_zero] at u
        rw [if_pos u]
        unfold wR
        rw [if_pos u]
        exact x3' i u
/-! which frame goes first -/
theorem pre_s (x m : Nat) : x / 2 ^ m = 2 * (x / 2 ^ (m + 1)) + x / 2 ^ m % 2 := by
  rw [Nat.pow_succ, ← Nat.div_div_eq_div_mul]
  omega
theorem bits_p {a b n : Nat} (ha : a < 2 ^ n) (hb : b < 2 ^ n) : ∀ k, k ≤ n → (∀ i, i < k → a / 2 ^ (n - 1 - i) % 2 = b / 2 ^ (n - 1 - i) % 2) → a / 2 ^ (n - k) = b / 2 ^ (n - k) := by
  intro k
  induction k with
  | zero =>
    intro _ _
    rw [Nat.sub_zero, Nat.div_eq_of_lt ha, Nat.div_eq_of_lt hb]
  | succ k ih =>
    intro hk h
    have i1 := ih (by omega) (fun i u => h i (by omega))
    have i2 := h k (by omega)
    rw [show n - 1 - k = n - (k + 1) by omega] at i2
    have p1 := pre_s a (n - (k + 1))
    have p2 := pre_s b (n - (k + 1))
    rw [show n - (k + 1) + 1 = n - k by omega] at p1 p2
    omega
theorem bits_e {a b n : Nat} (ha : a < 2 ^ n) (hb : b < 2 ^ n) (h : ∀ i, i < n → a / 2 ^ (n - 1 - i) % 2 = b / 2 ^ (n - 1 - i) % 2) : a = b := by
  have := bits_p ha hb n (Nat.le_refl n) h
  rw [Nat.sub_self, Nat.pow_zero, Nat.div_one, Nat.div_one] at this
  exact this
theorem bits_l {a b n k : Nat} (ha : a < 2 ^ n) (hb : b < 2 ^ n) (hk : k < n) (h : ∀ i, i < k → a / 2 ^ (n - 1 - i) % 2 = b / 2 ^ (n - 1 - i) % 2) (hl : a / 2 ^ (n - 1 - k) % 2 < b / 2 ^ (n - 1 - k) % 2) : a < b := by
  have i1 := bits_p ha hb k (by omega) h
  have p1 := pre_s a (n - 1 - k)
  have p2 := pre_s b (n - 1 - k)
  rw [show n - 1 - k + 1 = n - k by omega] at p1 p2
  by_cases c : a < b
  · exact c
  · exfalso
    have : b / 2 ^ (n - 1 - k) ≤ a / 2 ^ (n - 1 - k) := Nat.div_le_div_right (by omega)
    omega
/-- by identifiers, then by octets -/
def obef (o p : Nat → Nat) : Nat → Bool
  | 0 => false
  | m + 1 => if o (7 - m) = p (7 - m) then obef o p m else decide (o (7 - m) < p (7 - m))
def bef (id1 id2 : Nat) (o p : Nat → Nat) : Bool := if id1 = id2 then obef o p 8 else decide (id1 < id2)
theorem obef_e {o p : Nat → Nat} : ∀ m, m ≤ 8 → (∀ i, 8 - m ≤ i → i < 8 → o i = p i) → obef o p m = false := by
  intro m
  induction m with
  | zero => intro _ _; rfl
  | succ m ih =>
    intro hm h
    unfold obef
    rw [if_pos (h (7 - m) (by omega) (by omega))]
    exact ih (by omega) (fun i u1 u2 => h i (by omega) u2)
theorem obef_k {o p : Nat → Nat} {k : Nat} (hk : k < 8) (hn : o k ≠ p k) : ∀ m, 8 - m ≤ k → m ≤ 8 → (∀ i, 8 - m ≤ i → i < k → o i = p i) → obef o p m = decide (o k < p k) := by
  intro m
  induction m with
  | zero => intro h1 h2; omega
  | succ m ih =>
    intro h1 h2 h
    unfold obef
    by_cases c : 7 - m = k
    · rw [c, if_neg hn]
    · rw [if_pos (h (7 - m) (by omega) (by omega))]
      exact ih (by omega) (by omega) (fun i u1 u2 => h i (by omega) u2)
theorem pb_id {id : Nat} {o : Nat → Nat} {i : Nat} (hi : i < 11) : pbF id o (1 + i) = id / 2 ^ (11 - 1 - i) % 2 := by
  unfold pbF
  rw [if_pos (by omega), if_pos (by omega), show 11 - (1 + i) = 11 - 1 - i by omega]
theorem pb_oc {id : Nat} {o : Nat → Nat} {j i : Nat} (hi : i < 8) : pbF id o (19 + 8 * j + i) = o j / 2 ^ (8 - 1 - i) % 2 := by
  unfold pbF
  rw [if_neg (by omega), show (19 + 8 * j + i - 19) / 8 = j by omega, show 7 - (19 + 8 * j + i - 19) % 8 = 8 - 1 - i by omega]
theorem pb_o {id1 id2 : Nat} {o p : Nat → Nat} {i : Nat} (hi : i < 19) (h2 : i < 1 ∨ 11 < i) : pbF id1 o i = pbF id2 p i := by
  unfold pbF
  have nn : ¬ (1 ≤ i ∧ i ≤ 11) := by omega
  rw [if_pos hi, if_pos hi, if_neg nn, if_neg nn]
/-- the first bit that differs decides -/
theorem bef_k {id1 id2 k : Nat} {o p : Nat → Nat} (h1 : id1 < 2048) (h2 : id2 < 2048) (ho : ∀ i, i < 8 → o i < 256) (hp : ∀ i, i < 8 → p i < 256) (hk : k < 83) (he : ∀ i, i < k → pbF id1 o i = pbF id2 p i) (hn : pbF id1 o k ≠ pbF id2 p k) : bef id1 id2 o p = decide (pbF id1 o k < pbF id2 p k) := by
  have ids : 12 ≤ k → id1 = id2 := fun z => bits_e (n := 11) h1 h2 (fun i u => by rw [← pb_id (o := o) u, ← pb_id (o := p) u]; exact he _ (by omega))
  unfold bef
  by_cases c : k < 19
  · have kr : 1 ≤ k ∧ k ≤ 11 := by
      by_cases z : k < 1 ∨ 11 < k
      · exact absurd (pb_o c z) hn
      · omega
    have e1 := pb_id (id := id1) (o := o) (i := k - 1) (by omega)
    have e2 := pb_id (id := id2) (o := p) (i := k - 1) (by omega)
    rw [show 1 + (k - 1) = k by omega] at e1 e2
    have pre : ∀ i, i < k - 1 → id1 / 2 ^ (11 - 1 - i) % 2 = id2 / 2 ^ (11 - 1 - i) % 2 := fun i u => by
      rw [← pb_id (o := o) (by omega), ← pb_id (o := p) (by omega)]
      exact he _ (by omega)
    have b1 := pbF_lt id1 o k
    have b2 := pbF_lt id2 p k
    by_cases l : pbF id1 o k < pbF id2 p k
    · have := bits_l (n := 11) h1 h2 (k := k - 1) (by omega) pre (by rw [← e1, ← e2]; exact l)
      rw [if_neg (by omega), decide_eq_true this, decide_eq_true l]
    · have := bits_l (n := 11) h2 h1 (k := k - 1) (by omega) (fun i u => (pre i u).symm) (by rw [← e1, ← e2]; omega)
      rw [if_neg (by omega), decide_eq_false (by omega), decide_eq_false l]
  · rw [if_pos (ids (by omega))]
    obtain ⟨j, i, hi, hk2⟩ : ∃ j i, i < 8 ∧ k = 19 + 8 * j + i := ⟨(k - 19) / 8, (k - 19) % 8, Nat.mod_lt _ (by decide), by omega⟩
    have hj : j < 8 := by omega
    have e1 := pb_oc (id := id1) (o := o) (j := j) hi
    have e2 := pb_oc (id := id2) (o := p) (j := j) hi
    rw [← hk2] at e1 e2
    have pre : ∀ t, t < i → o j / 2 ^ (8 - 1 - t) % 2 = p j / 2 ^ (8 - 1 - t) % 2 := fun t u => by
      rw [← pb_oc (id := id1) (o := o) (j := j) (by omega), ← pb_oc (id := id2) (o := p) (j := j) (by omega)]
      exact he _ (by omega)
    have eq : ∀ t, t < j → o t = p t := fun t u => bits_e (n := 8) (ho t (by omega)) (hp t (by omega)) (fun w v => by
      rw [← pb_oc (id := id1) (o := o) (j := t) v, ← pb_oc (id := id2) (o := p) (j := t) v]
      exact he _ (by omega))
    have b1 := pbF_lt id1 o k
    have b2 := pbF_lt id2 p k
    have key : o j ≠ p j ∧ decide (o j < p j) = decide (pbF id1 o k < pbF id2 p k) := by
      by_cases l : pbF id1 o k < pbF id2 p k
      · have := bits_l (n := 8) (ho j hj) (hp j hj) hi pre (by rw [← e1, ← e2]; exact l)
        rw [decide_eq_true this, decide_eq_true l]
        exact ⟨by omega, rfl⟩
      · have := bits_l (n := 8) (hp j hj) (ho j hj) hi (fun t u => (pre t u).symm) (by rw [← e1, ← e2]; omega)
        rw [decide_eq_false (show ¬ o j < p j by omega), decide_eq_false l]
        exact ⟨by omega, rfl⟩
    rw [← key.2]
    exact obef_k hj key.1 8 (by omega) (by omega) (fun t u1 u2 => eq t u2)
theorem bef_e {id1 id2 : Nat} {o p : Nat → Nat} (h1 : id1 < 2048) (h2 : id2 < 2048) (ho : ∀ i, i < 8 → o i < 256) (hp : ∀ i, i < 8 → p i < 256) (he : ∀ i, i < 83 → pbF id1 o i = pbF id2 p i) : bef id1 id2 o p = false := by
  unfold bef
  rw [if_pos (bits_e (n := 11) h1 h2 (fun i u => by rw [← pb_id (o := o) u, ← pb_id (o := p) u]; exact he _ (by omega)))]
  refine obef_e 8 (by omega) (fun t _ u => bits_e (n := 8) (ho t u) (hp t u) (fun w v => ?_))
  rw [← pb_oc (id := id1) (o := o) (j := t) v, ← pb_oc (id := id2) (o := p) (j := t) v]
  exact he _ (by omega)
def FrC (A : mwM) (F : Nat) (ow id : Nat → Nat) (oc : Nat → Nat → Nat) (dn : Nat → Nat) : Prop := A 20 9 = sI F ∧ F ≤ 200 ∧ ∀ f, f < F → A 43 f = sI (ow f) ∧ ow f < 7 ∧ A 44 f = sI (id f) ∧ id f < 2048 ∧ A 45 f = sI (dn f) ∧ dn f < 2 ∧ ∀ i, i < 8 → A 46 (8 * f + i) = sI (oc f i) ∧ oc f i < 256
def FrM (M : mwM) (F : Nat) (ow id : Nat → Nat) (oc : Nat → Nat → Nat) (dn : Nat → Nat) : Prop := M 821 4 = sI F ∧ F ≤ 200 ∧ ∀ f, f < F → M 823 f = sI (ow f) ∧ ow f < 7 ∧ id f < 2048 ∧ M 828 f = sI (dn f) ∧ dn f < 2 ∧ FrM1 M f (id f) (oc f)
theorem c_isBefore0 {fu F f g : Nat} {ow id dn : Nat → Nat} {oc : Nat → Nat → Nat} {A : mwM} {L : mwL} (hfu : 10 ≤ fu) (hC : FrC A F ow id oc dn) (hf : f < F) (hg : g < F) : DX0_isBefore fu (sI f) (sI g) A L = some (bI (bef (id f) (id g) (oc f) (oc g)), A, L) := by
  obtain ⟨h9, hF, hA⟩ := hC
  obtain ⟨_, _, a3, a4, _, _, a7⟩ := hA f hf
  obtain ⟨_, _, b3, b4, _, _, b7⟩ := hA g hg
  unfold DX0_isBefore fX0_isBefore_b43 bef
  simp only [mzz_0, mzz_1]
  rw [mck_s (by omega) (by omega), mck_s (by omega) (by omega), mck_s (by omega) (by omega), mck_s (by omega) (by omega), sI_nn (by omega), sI_nn (by omega), a3, b3]
  by_cases c : id f = id g
  · rw [if_pos (by rw [c]), if_pos c]
    have key : ∀ (m fz : Nat), m ≤ 8 → m < fz → fX0_isBefore_h46 fu (sI f) (sI g) fz (sI (8 - m), A, L) = some (bI (obef (oc f) (oc g) m), A, L) := by
      intro m
      induction m with
      | zero =>
        intro fz hm hf1
        obtain ⟨z, rfl⟩ : ∃ z, fz = z + 1 := ⟨fz - 1, by omega⟩
        unfold fX0_isBefore_h46
        rw [mloop_S]
        show fX0_isBefore_i46 fu (sI f) (sI g) _ (sI 8) A L = _
        unfold fX0_isBefore_i46
        rw [if_pos (by decide)]
        rfl
      | succ m ih =>
        intro fz hm hf1
        obtain ⟨z, rfl⟩ : ∃ z, fz = z + 1 := ⟨fz - 1, by omega⟩
        unfold fX0_isBefore_h46
        rw [mloop_S]
        show fX0_isBefore_i46 fu (sI f) (sI g) (fX0_isBefore_h46 fu (sI f) (sI g) z) (sI (8 - (m + 1))) A L = _
        rw [show 8 - (m + 1) = 7 - m by omega]
        unfold fX0_isBefore_i46 fX0_isBefore_b107 obef
        simp only [mzz_0, mzz_1]
        obtain ⟨o1, o2⟩ := a7 (7 - m) (by omega)
        obtain ⟨p1, p2⟩ := b7 (7 - m) (by omega)
        rw [if_neg (by rw [sI_lle (by decide) (by omega)]; omega), sI_lml, sI_lml, sI_add, sI_add, mck_s (by omega) (by omega), mck_s (by omega) (by omega), mck_s (by omega) (by omega), mck_s (by omega) (by omega), sI_nn (by omega), sI_nn (by omega), o1, p1]
        simp only [mlet]
        rw [sI_1]
        by_cases d : oc f (7 - m) = oc g (7 - m)
        · rw [if_pos (by rw [d]), if_pos d]
          have := ih z (by omega) (by omega)
          rw [show 8 - m = 7 - m + 1 by omega] at this
          exact this
        · rw [if_neg (by rw [sI_eq (by omega) (by omega)]; exact d), if_neg d]
          by_cases e : oc f (7 - m) < oc g (7 - m)
          · rw [if_neg (by rw [sI_le (by omega) (by omega)]; omega), decide_eq_true e]
            rfl
          · rw [if_pos (by rw [sI_le (by omega) (by omega)]; omega), decide_eq_false e]
            rfl
    exact key 8 fu (by omega) (by omega)
  · rw [if_neg (by rw [sI_eq (by omega) (by omega)]; exact c), if_neg c]
    by_cases e : id f < id g
    · rw [if_neg (by rw [sI_le (by omega) (by omega)]; omega), decide_eq_true e]
      rfl
    · rw [if_pos (by rw [sI_le (by omega) (by omega)]; omega), decide_eq_false e]
      rfl
/-- the frame that goes first: 0 is none, f + 1 is f -/
def fsF (ow id : Nat → Nat) (oc : Nat → Nat → Nat) (dn : Nat → Nat) (n : Nat) : Nat → Nat
  | 0 => 0
  | f + 1 => if ow f = n ∧ dn f = 0 then (if fsF ow id oc dn n f = 0 then f + 1 else if bef (id f) (id (fsF ow id oc dn n f - 1)) (oc f) (oc (fsF ow id oc dn n f - 1)) = true then f + 1 else fsF ow id oc dn n f) else fsF ow id oc dn n f
theorem fsF_s {ow id dn : Nat → Nat} {oc : Nat → Nat → Nat} {n f : Nat} : fsF ow id oc dn n (f + 1) = if ow f = n ∧ dn f = 0 then (if fsF ow id oc dn n f = 0 then f + 1 else if bef (id f) (id (fsF ow id oc dn n f - 1)) (oc f) (oc (fsF ow id oc dn n f - 1)) = true then f + 1 else fsF ow id oc dn n f) else fsF ow id oc dn n f := rfl
theorem fsF_le {ow id dn : Nat → Nat} {oc : Nat → Nat → Nat} {n : Nat} : ∀ f, fsF ow id oc dn n f ≤ f ∧ (fsF ow id oc dn n f ≠ 0 → ow (fsF ow id oc dn n f - 1) = n ∧ dn (fsF ow id oc dn n f - 1) = 0) := by
  intro f
  induction f with
  | zero => exact ⟨Nat.le_refl _, fun h => absurd rfl h⟩
  | succ f ih =>
    unfold fsF
    split
    · rename_i c
      split
      · exact ⟨Nat.le_refl _, fun _ => c⟩
      · split
        · exact ⟨Nat.le_refl _, fun _ => c⟩
        · exact ⟨by omega, ih.2⟩
    · exact ⟨by omega, ih.2⟩
def fI (x : Nat) : Int32 := if x = 0 then -1 else sI (x - 1)
theorem c_beginSending {fu F n : Nat} {ow id dn : Nat → Nat} {oc : Nat → Nat → Nat} {A : mwM} {L : mwL} (hfu : 300 ≤ fu) (hn : n < 7) (hC : FrC A F ow id oc dn) (hw : fsF ow id oc dn n F ≠ 0) : wq (DX0_beginSending fu (sI n) A L) (fun z => z.2 = L ∧ z.1 25 n = sI 1 ∧ z.1 27 n = sI (fsF ow id oc dn n F - 1) ∧ z.1 28 n = sI 0 ∧ WvR z.1 n (fbF (id (fsF ow id oc dn n F - 1)) (oc (fsF ow id oc dn n F - 1))) ∧ ∀ a y, a ≠ 34 + n → ¬ ((a = 25 ∨ a = 27 ∨ a = 28 ∨ a = 29) ∧ y = n) → z.1 a y = A a y) := by
  have hC' := hC
  obtain ⟨h9, hF, hA⟩ := hC'
  unfold DX0_beginSending
  refine wq_for (body := fun r z => fX0_beginSending_i4 fu (sI n) r z.1 z.2.1 z.2.2.1 z.2.2.2) (fun f (x : mwM) => (fI (fsF ow id oc dn n f), sI f, x, L)) (fun f x => x = A) F ?_ ?_ F 0 A fu (by omega) (by omega) rfl
  · intro f x r hf hx ih
    subst hx
    show wq (fX0_beginSending_i4 fu (sI n) r (fI (fsF ow id oc dn n f)) (sI f) x L) _
    obtain ⟨a1, a2, a3, a4, a5, a6, a7⟩ := hA f hf
    have le := (fsF_le (ow := ow) (id := id) (dn := dn) (oc := oc) (n := n) f)
    unfold fX0_beginSending_i4 fX0_beginSending_b48 fX0_beginSending_b50
    simp only [mlet]
    rw [h9, if_neg (by rw [sI_le (by omega) (by omega)]; omega), mck_s (by omega) (by omega), mck_s (by omega) (by omega), sI_nn (by omega), a1, a5, sI_1]
    have nx := ih x rfl
    rw [fsF_s] at nx
    by_cases c1 : ow f = n
    · rw [if_pos (by rw [c1])]
      by_cases c2 : dn f = 0
      · rw [if_pos (show sI (dn f) = 0 by rw [c2]; rfl)]
        rw [if_pos ⟨c1, c2⟩] at nx
        by_cases c3 : fsF ow id oc dn n f = 0
        · rw [c3, if_pos (show fI 0 < 0 by decide)]
          rw [if_pos c3] at nx
          exact nx
        · have ef : fI (fsF ow id oc dn n f) = sI (fsF ow id oc dn n f - 1) := if_neg c3
          rw [if_neg c3] at nx
          rw [ef, if_neg (show ¬ sI (fsF ow id oc dn n f - 1) < 0 by rw [sI_ltl (by omega) (by decide)]; omega), c_isBefore0 (L := L) (by omega) hC hf (show fsF ow id oc dn n f - 1 < F by omega), mb3_s]
          cases hb : bef (id f) (id (fsF ow id oc dn n f - 1)) (oc f) (oc (fsF ow id oc dn n f - 1)) with
          | false =>
            rw [hb, if_neg (by decide)] at nx
            rw [if_pos (show bI false = 0 from rfl)]
            rw [ef] at nx
            exact nx
          | true =>
            rw [hb, if_pos rfl] at nx
            rw [if_neg (show ¬ bI true = 0 by decide)]
            exact nx
      · rw [if_neg (show ¬ sI (dn f) = 0 by rw [sI_eql (by omega) (by decide)]; exact c2)]
        rw [if_neg (fun z => c2 z.2)] at nx
        exact nx
    · rw [if_neg (show ¬ sI (ow f) = sI n by rw [sI_eq (by omega) (by omega)]; exact c1)]
      rw [if_neg (fun z => c1 z.1)] at nx
      exact nx
  · intro x r hx
    subst hx
    show wq (fX0_beginSending_i4 fu (sI n) r (fI (fsF ow id oc dn n F)) (sI F) x L) _
    have le := (fsF_le (ow := ow) (id := id) (dn := dn) (oc := oc) (n := n) F)
    generalize fsF ow id oc dn n F = g at *
    have ef : fI g = sI (g - 1) := if_neg hw
    unfold fX0_beginSending_i4
    rw [h9, if_pos (by rw [sI_le (by omega) (by omega)]; omega), ef, if_neg (show ¬ sI (g - 1) < 0 by rw [sI_ltl (by omega) (by decide)]; omega)]
    simp only [mlet]
    simp (disch := omega) only [mck_s, sI_nn, mset_n, mset_s, mb2_id]
    obtain ⟨a1, a2, a3, a4, a5, a6, a7⟩ := hA (g - 1) (by omega)
    refine wq_mono (c_layOut (f := g - 1) (id := id (g - 1)) (oc := oc (g - 1)) (by omega) hn (by omega) (by simp (disch := omega) only [mset_n]; exact a3) a4 (fun j u => by simp (disch := omega) only [mset_n]; exact a7 j u)) ?_
    rintro z ⟨z1, z2, z3⟩
    refine ⟨z1, ?_, ?_, ?_, z2, fun a y u1 u2 => ?_⟩
    · rw [z3 25 n (by omega) (by omega)]
      simp (disch := omega) only [mset_n, mset_s]
      try rfl
    · rw [z3 27 n (by omega) (by omega)]
      simp (disch := omega) only [mset_n, mset_s]
    · rw [z3 28 n (by omega) (by omega)]
      simp (disch := omega) only [mset_n, mset_s]
      try rfl
    · rw [z3 a y u1 (by omega)]
      simp (disch := omega) only [mset_n]
/-! the reference: which frame goes first, and its row -/
theorem nbp (id : Nat) (o : Nat → Nat) (i : Nat) : vp_nar .byte (sI (pbF id o i)) = sI (pbF id o i) := nb2' _ (pbF_lt _ _ _)
def fF (M M' : mwM) : Prop := ∀ a y, ¬ (a = 821 ∧ (y = 34 ∨ y = 48)) → a ≠ 848 → a ≠ 851 → M' a y = M a y
theorem fI_m1 {x : Nat} (h : x < 1000) : fI x = -1 ↔ x = 0 := by
  unfold fI
  constructor
  · intro z
    by_cases c : x = 0
    · exact c
    · rw [if_neg c] at z
      exact absurd z.symm (sI_m1n (by omega))
  · intro z
    rw [if_pos z]
theorem m_first {fu F n : Nat} {ow id dn : Nat → Nat} {oc : Nat → Nat → Nat} {M : mwM} {L : mwL} (hfu : 300 ≤ fu) (hn : n < 7) (hM : FrM M F ow id oc dn) : wq (DX12_first fu (sI n) M L) (fun z => z.1 = fI (fsF ow id oc dn n F) ∧ z.2.2 = L ∧ fF M z.2.1 ∧ (CA M → CA z.2.1)) := by
  have hM' := hM
  obtain ⟨h4, hF, hA⟩ := hM'
  unfold DX12_first
  refine wq_for (body := fun r z => fX12_first_i7 fu (sI n) r z.1 z.2.1 z.2.2.1 z.2.2.2.1 z.2.2.2.2) (fun f (x : mwM) => (fI (fsF ow id oc dn n f), (if fsF ow id oc dn n f = 0 then 0 else 83), sI f, x, L)) (fun f x => fF M x ∧ (x = M ∨ x 821 48 = -1) ∧ (fsF ow id oc dn n f ≠ 0 → ∀ i, i < 83 → x 851 i = sI (pbF (id (fsF ow id oc dn n f - 1)) (oc (fsF ow id oc dn n f - 1)) i))) F ?_ ?_ F 0 M fu (by omega) (by omega) ⟨fun _ _ _ _ _ => rfl, Or.inl rfl, fun h => absurd rfl h⟩
  · intro f x r hf ⟨x1, x2, x3⟩ ih
    show wq (fX12_first_i7 fu (sI n) r (fI (fsF ow id oc dn n f)) (if fsF ow id oc dn n f = 0 then 0 else 83) (sI f) x L) _
    obtain ⟨a1, a2, a3, a4, a5, a6⟩ := hA f hf
    have le := (fsF_le (ow := ow) (id := id) (dn := dn) (oc := oc) (n := n) f).1
    generalize hg : fsF ow id oc dn n f = g at *
    have nx := fun X => ih X
    rw [fsF_s, hg] at nx
    unfold fX12_first_i7
    rw [x1 821 4 (by omega) (by omega) (by omega), h4, if_neg (by rw [sI_le (by omega) (by omega)]; omega), mck_s (by omega) (by omega), mck_s (by omega) (by omega), sI_nn (by omega), x1 823 f (by omega) (by omega) (by omega), a1, x1 828 f (by omega) (by omega) (by omega), a4]
    have skip : (∀ X, (if ow f = n ∧ dn f = 0 then (if g = 0 then f + 1 else if bef (id f) (id (g - 1)) (oc f) (oc (g - 1)) = true then f + 1 else g) else g) = g → (fF M X ∧ (X = M ∨ X 821 48 = -1) ∧ (g ≠ 0 → ∀ i, i < 83 → X 851 i = sI (pbF (id (g - 1)) (oc (g - 1)) i))) → wq (fX12_first_b184 fu (sI n) r (fI g) (if g = 0 then 0 else 83) (sI f) X L) (fun z => z.1 = fI (fsF ow id oc dn n F) ∧ z.2.2 = L ∧ fF M z.2.1 ∧ (CA M → CA z.2.1))) := by
      intro X he hX
      unfold fX12_first_b184
      simp only [mlet]
      rw [sI_1]
      have := nx X
      rw [he] at this
      exact this hX
    by_cases c1 : ow f = n
    · rw [if_pos (by rw [c1])]
      by_cases c2 : dn f = 0
      · rw [if_pos (show sI (dn f) = 0 by rw [c2]; rfl)]
        have hfr : FrM1 x f (id f) (oc f) := by
          obtain ⟨b1, b2, b3, b4⟩ := a6
          refine ⟨by rw [x1 824 f (by omega) (by omega) (by omega)]; exact b1, by rw [x1 825 f (by omega) (by omega) (by omega)]; exact b2, by rw [x1 826 f (by omega) (by omega) (by omega)]; exact b3, fun i u => by rw [x1 827 _ (by omega) (by omega) (by omega)]; exact b4 i u⟩
        refine wq_b2 (m_writePlain (L := L) (by omega) (by omega) a3 hfr) ?_
        rintro Y L1 ⟨y1, y2, y3, y4, y5⟩
        dsimp only at y1 y2 y3 y4 y5
        subst y1
        have fY : fF M Y := fun a y u1 u2 u3 => by rw [y5 a y u1 u2]; exact x1 a y u1 u2 u3
        -- the new one is before
        have yes : (if g = 0 then f + 1 else if bef (id f) (id (g - 1)) (oc f) (oc (g - 1)) = true then f + 1 else g) = f + 1 → ∀ (v2 v3 : Int32), wq (fX12_first_b134 fu (sI n) r v2 v3 (sI f) 1 Y L1) (fun z => z.1 = fI (fsF ow id oc dn n F) ∧ z.2.2 = L1 ∧ fF M z.2.1 ∧ (CA M → CA z.2.1)) := by
          intro he v2 v3
          unfold fX12_first_b134
          rw [if_neg (show ¬ (1 : Int32) = 0 by decide), y2]
          simp only [mlet]
          refine wq_for (body := fun q z => fX12_first_i155 fu (sI n) r q z.1 z.2.1 z.2.2.1 z.2.2.2.1 z.2.2.2.2.1 z.2.2.2.2.2) (fun j (w : mwM) => (sI f, sI 83, sI f, sI j, w, L1)) (fun j w => (∀ i, i < j → w 851 i = sI (pbF (id f) (oc f) i)) ∧ ∀ a y, a ≠ 851 → w a y = Y a y) 83 ?_ ?_ 83 0 Y fu (by omega) (by omega) ⟨fun i u => by omega, fun _ _ _ => rfl⟩
          · intro j w q hj ⟨w1, w2⟩ ihw
            show wq (fX12_first_i155 fu (sI n) r q (sI f) (sI 83) (sI f) (sI j) w L1) _
            unfold fX12_first_i155
            rw [w2 821 34 (by omega), y2, if_neg (by rw [sI_le (by omega) (by omega)]; omega), mck_s (by omega) (by omega), mck_s (by omega) (by omega), sI_nn (by omega), w2 848 j (by omega), y3 j hj, nbp]
            simp only [mlet]
            rw [sI_1]
            refine ihw _ ⟨fun i u => ?_, fun a y u => by rw [mset_n (by omega)]; exact w2 a y u⟩
            by_cases z : i = j
            · rw [z, mset_s]
            · rw [mset_n (by omega)]
              exact w1 i (by omega)
          · intro w q ⟨w1, w2⟩
            show wq (fX12_first_i155 fu (sI n) r q (sI f) (sI 83) (sI f) (sI 83) w L1) _
            unfold fX12_first_i155 fX12_first_b184
            rw [w2 821 34 (by omega), y2, if_pos (by decide)]
            simp only [mlet]
            rw [sI_1]
            have := nx w
            rw [if_pos ⟨c1, c2⟩, he] at this
            have ef : fI (f + 1) = sI f := by
              unfold fI
              rw [if_neg (by omega), Nat.add_sub_cancel]
            rw [ef, if_neg (show ¬ f + 1 = 0 by omega), Nat.add_sub_cancel] at this
            exact this ⟨fun a y u1 u2 u3 => by rw [w2 a y u3]; exact fY a y u1 u2 u3, Or.inr (by rw [w2 821 48 (by omega)]; exact y4), fun _ => w1⟩
        by_cases c3 : g = 0
        · obtain ⟨q, rfl⟩ : ∃ q, fu = q + 1 := ⟨fu - 1, by omega⟩
          unfold fX12_first_h49
          rw [mloop_S]
          show wq (fX12_first_i49 (q + 1) (sI n) r _ (fI g) (if g = 0 then 0 else 83) (sI f) 0 Y L1) _
          unfold fX12_first_i49 fX12_first_b92 fX12_first_b129
          have em : fI g = -1 := (fI_m1 (by omega)).mpr c3
          rw [if_pos em, if_pos em]
          exact yes (if_pos c3) _ _
        · have em : ¬ fI g = -1 := fun z => c3 ((fI_m1 (by omega)).mp z)
          have hg1 := hA (g - 1) (by omega)
          have h851 := x3 c3
          have o1 : ∀ i, i < 8 → oc f i < 256 := fun i u => (a6.2.2.2 i u).2
          have o2 : ∀ i, i < 8 → oc (g - 1) i < 256 := fun i u => (hg1.2.2.2.2.2.2.2.2 i u).2
          have no : bef (id f) (id (g - 1)) (oc f) (oc (g - 1)) = false → wq (fX12_first_b134 fu (sI n) r (fI g) (if g = 0 then 0 else 83) (sI f) 0 Y L1) (fun z => z.1 = fI (fsF ow id oc dn n F) ∧ z.2.2 = L1 ∧ fF M z.2.1 ∧ (CA M → CA z.2.1)) := by
            intro hb
            unfold fX12_first_b134
            rw [if_pos (show (0 : Int32) = 0 from rfl)]
            refine skip Y (by rw [if_pos ⟨c1, c2⟩, if_neg c3, hb, if_neg (by decide)]) ⟨fY, Or.inr y4, fun _ i u => ?_⟩
            rw [y5 851 i (by omega) (by omega)]
            exact h851 i u
          have key : ∀ (m k q : Nat), k + m = 83 → m < q → (∀ i, i < k → pbF (id f) (oc f) i = pbF (id (g - 1)) (oc (g - 1)) i) → wq (fX12_first_h49 fu (sI n) r q (fI g, (if g = 0 then 0 else 83), sI f, sI k, Y, L1)) (fun z => z.1 = fI (fsF ow id oc dn n F) ∧ z.2.2 = L1 ∧ fF M z.2.1 ∧ (CA M → CA z.2.1)) := by
            intro m
            induction m with
            | zero =>
              intro k q hk hq1 he
              obtain ⟨q', rfl⟩ : ∃ q', q = q' + 1 := ⟨q - 1, by omega⟩
              have : k = 83 := by omega
              subst this
              unfold fX12_first_h49
              rw [mloop_S]
              show wq (fX12_first_i49 fu (sI n) r _ (fI g) (if g = 0 then 0 else 83) (sI f) (sI 83) Y L1) _
              unfold fX12_first_i49 fX12_first_b92 fX12_first_b133
              rw [if_neg em, y2, if_pos (show sI 83 ≤ sI 83 by decide), if_neg em, if_pos (show sI 83 ≤ sI 83 by decide)]
              exact no (bef_e a3 hg1.2.2.1 o1 o2 he)
            | succ m ihm =>
              intro k q hk hq1 he
              obtain ⟨q', rfl⟩ : ∃ q', q = q' + 1 := ⟨q - 1, by omega⟩
              unfold fX12_first_h49
              rw [mloop_S]
              show wq (fX12_first_i49 fu (sI n) r (fX12_first_h49 fu (sI n) r q') (fI g) (if g = 0 then 0 else 83) (sI f) (sI k) Y L1) _
              unfold fX12_first_i49 fX12_first_b92 fX12_first_b133 fX12_first_b129
              have e83 : (if g = 0 then (0 : Int32) else 83) = sI 83 := if_neg c3
              have n83 : ¬ sI 83 ≤ sI k := by rw [sI_le (by omega) (by omega)]; omega
              have p1 := pbF_lt (id f) (oc f) k
              have p2 := pbF_lt (id (g - 1)) (oc (g - 1)) k
              rw [if_neg em, y2, e83, if_neg n83, if_neg n83, mck_s (by omega) (by omega), mck_s (by omega) (by omega), sI_nn (by omega), y3 k (by omega), y5 851 k (by omega) (by omega), h851 k (by omega)]
              by_cases d : pbF (id f) (oc f) k = pbF (id (g - 1)) (oc (g - 1)) k
              · rw [if_pos (by rw [d])]
                simp only [mlet]
                rw [sI_1]
                have := ihm (k + 1) q' (by omega) (by omega) (fun i u => by
                  by_cases z : i = k
                  · rw [z]; exact d
                  · exact he i (by omega))
                rw [e83] at this
                exact this
              · have bk := bef_k a3 hg1.2.2.1 o1 o2 (show k < 83 by omega) he d
                rw [if_neg (by rw [sI_eq (by omega) (by omega)]; exact d), if_neg em, if_neg n83, if_neg n83, mck_s (by omega) (by omega), mck_s (by omega) (by omega)]
                by_cases e : pbF (id f) (oc f) k < pbF (id (g - 1)) (oc (g - 1)) k
                · rw [if_neg (by rw [sI_le (by omega) (by omega)]; omega)]
                  rw [decide_eq_true e] at bk
                  exact yes (by rw [if_neg c3, bk, if_pos rfl]) _ _
                · rw [if_pos (by rw [sI_le (by omega) (by omega)]; omega)]
                  rw [decide_eq_false e] at bk
                  have := no bk
                  rw [e83] at this
                  exact this
          exact key 83 0 fu (by omega) (by omega) (fun i u => by omega)
      · rw [if_neg (show ¬ sI (dn f) = 0 by rw [sI_eql (by omega) (by decide)]; exact c2)]
        exact skip x (if_neg (fun z => c2 z.2)) ⟨x1, x2, x3⟩
    · rw [if_neg (show ¬ sI (ow f) = sI n by rw [sI_eq (by omega) (by omega)]; exact c1)]
      exact skip x (if_neg (fun z => c1 z.1)) ⟨x1, x2, x3⟩
  · intro x r ⟨x1, x2, x3⟩
    show wq (fX12_first_i7 fu (sI n) r (fI (fsF ow id oc dn n F)) (if fsF ow id oc dn n F = 0 then 0 else 83) (sI F) x L) _
    unfold fX12_first_i7
    rw [x1 821 4 (by omega) (by omega) (by omega), h4, if_pos (by rw [sI_le (by omega) (by omega)]; omega)]
    refine wq_some ⟨rfl, rfl, x1, fun hC => ?_⟩
    dsimp only
    rcases x2 with z | z
    · rw [z]; exact hC
    · exact Or.inl z
/-- the row that was written last -/
def WC (M : mwM) (F : Nat) (id : Nat → Nat) (oc : Nat → Nat → Nat) : Prop := M 821 50 = -1 ∨ ∃ g, g < F ∧ M 821 50 = sI g ∧ WrM M (fbF (id g) (oc g))
theorem WrM_fr {M M' : mwM} {f : Nat → Nat} (h : WrM M f) (hf : ∀ a y, (a = 821 ∧ (y = 37 ∨ y = 38)) ∨ a = 849 ∨ a = 850 → M' a y = M a y) : WrM M' f := by
  obtain ⟨h1, h2, h3⟩ := h
  refine ⟨by rw [hf 821 37 (by omega)]; exact h1, fun i u => ?_, by rw [hf 821 38 (by omega)]; exact h3⟩
  rw [hf 849 i (by omega), hf 850 i (by omega)]
  exact h2 i u
theorem m_write {fu F f : Nat} {ow id dn : Nat → Nat} {oc : Nat → Nat → Nat} {M : mwM} {L : mwL} (hfu : 200 ≤ fu) (hM : FrM M F ow id oc dn) (hf : f < F) (hW : WC M F id oc) : wq (DX12_write fu (sI f) M L) (fun z => z.2 = L ∧ WrM z.1 (fbF (id f) (oc f)) ∧ z.1 821 50 = sI f ∧ (CA M → CA z.1) ∧ ∀ a y, ¬ (a = 821 ∧ (y = 34 ∨ y = 37 ∨ y = 38 ∨ y = 41 ∨ y = 48 ∨ y = 50)) → a ≠ 848 → a ≠ 849 → a ≠ 850 → a ≠ 852 → z.1 a y = M a y) := by
  obtain ⟨h4, hF, hA⟩ := hM
  obtain ⟨a1, a2, a3, a4, a5, a6⟩ := hA f hf
  unfold DX12_write fX12_write_b13
  simp only [mlet]
  have anew : wq (mb2 (DX12_writeAnew fu (sI f) M L) (fun M3 L4 => some (mset M3 821 50 (sI f), L4))) (fun z => z.2 = L ∧ WrM z.1 (fbF (id f) (oc f)) ∧ z.1 821 50 = sI f ∧ (CA M → CA z.1) ∧ ∀ a y, ¬ (a = 821 ∧ (y = 34 ∨ y = 37 ∨ y = 38 ∨ y = 41 ∨ y = 48 ∨ y = 50)) → a ≠ 848 → a ≠ 849 → a ≠ 850 → a ≠ 852 → z.1 a y = M a y) := by
    refine wq_b2 (m_writeAnew (L := L) hfu (by omega) a3 a6) ?_
    rintro X L1 ⟨x1, x2, x3, x4⟩
    dsimp only at x1 x2 x3 x4
    refine wq_some ⟨x1, WrM_fr x2 (fun a y u => mset_n (by omega)), by dsimp only; rw [mset_s], fun _ => Or.inl ?_, fun a y u1 u2 u3 u4 u5 => ?_⟩
    · dsimp only
      rw [mset_n (by omega)]
      exact x3
    · dsimp only
      rw [mset_n (by omega)]
      exact x4 a y (by omega) u2 u3 u4 u5
  rcases hW with h | ⟨g, hg, h1, h2⟩
  · rw [h, if_neg (sI_m1n (by omega))]
    exact anew
  · rw [h1]
    by_cases c : g = f
    · subst c
      rw [if_pos rfl]
      refine wq_some ⟨rfl, WrM_fr h2 (fun a y u => mset_n (by omega)), by dsimp only; rw [mset_s], fun hC => CA_fr hC (fun a y u => mset_n (by omega)), fun a y u1 u2 u3 u4 u5 => ?_⟩
      dsimp only
      rw [mset_n (by omega)]
    · rw [if_neg (by rw [sI_eq (by omega) (by omega)]; exact c)]
      exact anew
