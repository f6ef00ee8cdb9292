/-! the reference: states, receivers, flags change; a message begins -/
theorem TfM_ch {M M' : mwM} {L L' : mwL} {τ τ' : Nat} {n n' : Nat → Nat → Nat} {b b' : Nat → Nat → Bool} {o : Nat → Nat → Nat} {e e' : Nat → Nat} (h : TfM M L τ n b o e) (hA : ∀ a y, ¬ ((872 ≤ a ∧ a ≤ 879) ∨ (882 ≤ a ∧ a ≤ 891) ∨ a = 898 ∨ a = 900 ∨ a = 901 ∨ (a = 869 ∧ (y = 0 ∨ y = 40))) → M' a y = M a y) (hτ : L' 869 2 = sL τ') (h0 : ∀ i j, ¬ (3 ≤ i ∧ i ≤ 9) → ¬ (i = 0 ∧ (j = 3 ∨ j = 4)) → n' i j = n i j) (hm : ∀ m, 1 ≤ m → m ≤ n 0 0 → TmS M' L' τ' n' m) (hu : ∀ m, n 0 0 < m → m ≤ 100 → M' 872 m = 0 ∧ M' 873 m = 0 ∧ M' 875 m = sI 0) (hr : ∀ r, r < 4 → TmR M' L' n' o r) (hf : ∀ f, f < n 0 1 → M' 898 (f + 1) = bI (b' 1 f)) (he : ∀ k, k < 8 → M' 901 k = sI (e' k)) : TfM M' L' τ' n' b' o e' := by
  obtain ⟨k1, k2, k3, k4, k5, k6, k7⟩ := h
  have f2 : n' 2 = n 2 := funext (fun j => h0 2 j (by omega) (by omega))
  refine ⟨?_, ?_, ?_, ?_, hr, ?_, he⟩
  · unfold TmG
    rw [h0 0 0 (by omega) (by omega), h0 0 1 (by omega) (by omega), hA 869 1 (by omega), hA 869 3 (by omega), hA 869 26 (by omega), hA 869 35 (by omega), hA 869 36 (by omega), hA 869 37 (by omega), hA 869 39 (by omega)]
    exact ⟨k1.1, hτ, k1.2.2⟩
  · intro j u
    rw [h0 0 0 (by omega) (by omega)] at u
    rw [f2, hA 870 _ (by omega)]
    exact k2 j u
  · intro j u1 u2
    rw [h0 0 0 (by omega) (by omega)] at u2
    refine ⟨fun i u => ?_, hm j u1 u2⟩
    rw [f2] at u
    rw [f2, hA 871 _ (by omega)]
    exact (k3 j u1 u2).1 i u
  · intro j u1 u2
    rw [h0 0 0 (by omega) (by omega)] at u1
    exact hu j u1 u2
  · intro f u
    rw [h0 0 1 (by omega) (by omega)] at u
    have := k6 f u
    have en : nuO n' f = nuO n f := by
      unfold nuO
      rw [h0 10 f (by omega) (by omega), h0 11 f (by omega) (by omega), h0 12 f (by omega) (by omega), f2]
    have ec : coO n' f = coO n f := by
      unfold coO
      rw [h0 10 f (by omega) (by omega), h0 11 f (by omega) (by omega), h0 12 f (by omega) (by omega), f2]
    unfold TmF
    rw [en, ec, h0 10 f (by omega) (by omega), h0 11 f (by omega) (by omega), h0 12 f (by omega) (by omega), hA 892 _ (by omega), hA 893 _ (by omega), hA 894 _ (by omega), hA 895 _ (by omega), hA 896 _ (by omega)]
    refine ⟨this.1, this.2.1, this.2.2.1, this.2.2.2.1, this.2.2.2.2.1, hf f u, fun k u => ?_⟩
    rw [hA 899 _ (by omega)]
    exact this.2.2.2.2.2.2 k u
theorem m_start17 {fu m : Nat} {M : mwM} {L : mwL} {n : Nat → Nat → Nat} {b : Nat → Nat → Bool} {o : Nat → Nat → Nat} {e : Nat → Nat} (hfu : 10 ≤ fu) (hv : TfV n b) (h : TfM M L (n 0 3) n b o e) (h1 : 1 ≤ m) (h2 : m ≤ n 0 0) (h3 : n 3 m = 0) : wq (DX17_start fu (sI m) M L) (fun z => TfM z.1 z.2 (n 0 3) (bgN n m) (mkB n b) o e ∧ (∀ a y, ¬ (a = 869 ∨ (872 ≤ a ∧ a ≤ 874) ∨ (892 ≤ a ∧ a ≤ 899)) → z.1 a y = M a y) ∧ ∀ a y, ¬ (a = 880 ∨ a = 897) → z.2 a y = L a y) := by
  have hK := hv.1.1
  have hM := hv.2.1 m h1 h2
  have hvb := V_bg hv h1 h2 h3
  have hF : n 0 1 < 1600 := by
    have := Tf_F hvb
    have e1 : bgN n m 0 1 = n 0 1 + 1 := by
      unfold bgN
      rw [mset_n (by omega), mset_n (by omega), mk_F]
    omega
  have sz : ∀ {M' : mwM} {L' : mwL}, M' = M → L' = L → DX17_size fu (sI m) M' L' = some (sI (n 2 m), M', L') := by
    intro M' L' e1 e2
    rw [e1, e2]
    exact m_size17 (TfV_W.mp hv).1 h h1 h2
  have tm := h.2.2.1 m h1 h2
  have e0 := h.2.1 (m - 1) (by omega)
  rw [show m - 1 + 1 = m by omega] at e0
  have hs := su_S (g := n 2) h1
  have hsk := su_k (TfV_W.mp hv).1 m h2
  have fin : ∀ kd co st : Nat, kd = (if n 2 m ≤ 7 then 0 else 1) → co = (if n 2 m ≤ 7 then n 2 m else 6) → st = (if n 2 m ≤ 7 then 3 else 1) → ∀ v3 : Int32, v3 = bI (decide (n 2 m ≤ 7)) → wq (fX17_start_b76 fu (sI m) (sI co) v3 (sI kd) (sI (if kd = 1 then n 2 m else 0)) M L) (fun z => TfM z.1 z.2 (n 0 3) (bgN n m) (mkB n b) o e ∧ (∀ a y, ¬ (a = 869 ∨ (872 ≤ a ∧ a ≤ 874) ∨ (892 ≤ a ∧ a ≤ 899)) → z.1 a y = M a y) ∧ ∀ a y, ¬ (a = 880 ∨ a = 897) → z.2 a y = L a y) := by
    intro kd co st hkd hco hst v3 hv3
    have hc7 : co ≤ 7 ∧ co ≤ n 2 m := by
      rw [hco]
      split <;> omega
    have hk01 : kd = 0 ∨ kd = 1 := by
      rw [hkd]
      split <;> omega
    have hfr : frO kd 0 = 0 := by
      unfold frO
      rw [if_neg (by omega)]
    unfold fX17_start_b76
    refine wq_b3 (m_make17 (τ := n 0 3) hF h.1.2.2.2.1 h.1.2.1) ?_
    rintro r1 M1 L1 ⟨y0, y1, y2, y3, y4, y5, y6, y7, y8, y9⟩
    dsimp only at y0 y1 y2 y3 y4 y5 y6 y7 y8 y9
    rw [y0]
    refine wq_b2 (show wq (DX17_fill fu (sI (n 0 1 + 1)) (sI m) 0 (sI co) M1 L1) _ from m_fill17 (τ := 0) (fr := 0) (B := suN (n 2) (m - 1)) (v := fun k => o m k) hfu (by omega) (by omega) hc7.1 ?_ (by omega) (fun k u => ?_)) ?_
    · rw [y1 870 m (by omega) (by omega)]; exact e0
    · rw [y1 871 _ (by omega) (by omega)]
      exact tm.1 k (by omega)
    rintro M2 L2 ⟨w1, w2, w3⟩
    dsimp only at w1 w2 w3
    subst w1
    have T1 : TfM M2 L2 (n 0 3) (mkN n kd m 0) (mkB n b) o e := by
      refine TfM_mk (co := co) (fun f u => co_le (TfV_W.mp hv).1 u) h (fun a y u1 u2 u3 => ?_) y2 ?_ ?_ ?_ ?_ ?_ ?_ ?_ ?_ (fun k u => ?_)
      · rw [w3 a y (by omega), y1 a y u1 u2]
      · rw [w3 869 26 (by omega)]; exact y3
      · rw [w3 892 _ (by omega)]; exact y4
      · rw [w3 893 _ (by omega)]; exact y5
      · rw [w3 894 _ (by omega)]; exact y6
      · rw [w3 895 _ (by omega)]; exact y7
      · rw [hco]
        by_cases h7 : n 2 m ≤ 7
        · rw [if_pos h7, if_pos (by rw [hkd, if_pos h7])]
        · rw [if_neg h7, if_neg (by rw [hkd, if_neg h7]; omega), if_pos (by rw [hkd, if_neg h7])]
      · rw [w3 896 _ (by omega)]; exact y8
      · rw [w3 898 _ (by omega)]; exact y9
      · rw [w2 k u, hfr, Nat.zero_add]
    have fK : mkN n kd m 0 0 0 = n 0 0 := mk_r (by omega) (by omega)
    have t2 : L2 869 2 = sL (n 0 3) := T1.1.2.1
    have done : ∀ M3 L3, M3 = mset (mset (mset M2 872 m 1) 874 m (sI co)) 873 m (sI st) → L3 = mset L2 880 m (sL (n 0 3)) → TfM M3 L3 (n 0 3) (bgN n m) (mkB n b) o e ∧ (∀ a y, ¬ (a = 869 ∨ (872 ≤ a ∧ a ≤ 874) ∨ (892 ≤ a ∧ a ≤ 899)) → M3 a y = M a y) ∧ ∀ a y, ¬ (a = 880 ∨ a = 897) → L3 a y = L a y := by
      intro M3 L3 q1 q2
      subst q1
      subst q2
      have b3 : ∀ j, bgN n m 3 j = if j = m then st else n 3 j := by
        intro j
        unfold bgN
        rw [mset_n (by omega)]
        by_cases hq : j = m
        · rw [hq, mset_s, if_pos rfl, hst]
        · rw [mset_j hq, if_neg hq, mk_r (by omega) (by omega)]
      have b4 : ∀ j, bgN n m 4 j = if j = m then n 0 3 else n 4 j := by
        intro j
        unfold bgN
        by_cases hq : j = m
        · rw [hq, mset_s, if_pos rfl]
        · rw [mset_j hq, if_neg hq, mset_n (by omega), mk_r (by omega) (by omega)]
      refine ⟨TfM_ch T1 (fun a y u => by simp (disch := omega) only [mset_n]) (by simp (disch := omega) only [mset_n]; exact t2) (fun i j u v => ?_) (fun j u v => ?_) (fun j u v => ?_) (fun r u => ?_) (fun f u => ?_) (fun k u => ?_), fun a y u => ?_, fun a y u => ?_⟩
      · unfold bgN
        rw [mset_n (by omega), mset_n (by omega), ← hkd]
      · rw [fK] at v
        unfold TmS
        rw [b3, b4]
        by_cases hq : j = m
        · subst hq
          rw [show (if j = j then st else n 3 j) = st from if_pos rfl, show (if j = j then n 0 3 else n 4 j) = n 0 3 from if_pos rfl]
          simp (disch := omega) only [mset_n, mset_s]
          have : st = 3 ∨ st = 1 := by
            rw [hst]; split <;> omega
          refine ⟨?_, trivial, fun z => ?_, fun z => ?_, fun _ => trivial, fun z => by omega⟩
          · rw [decide_eq_true (by omega)]; rfl
          · have : ¬ n 2 j ≤ 7 := by
              intro h7
              rw [if_pos h7] at hst
              omega
            rw [hco, if_neg this]
          · have := (T1.2.2.1 j u (by rw [fK]; exact v)).2.2.2.2.1
            rw [mk_r (by omega) (by omega)] at this
            exact this (by omega)
        · have := (T1.2.2.1 j u (by rw [fK]; exact v)).2
          unfold TmS at this
          rw [mk_r (by omega) (by omega), mk_r (by omega) (by omega)] at this
          rw [if_neg hq, if_neg hq]
          simp (disch := omega) only [mset_n]
          exact this
      · rw [fK] at u
        have := T1.2.2.2.1 j (by rw [fK]; exact u) v
        simp (disch := omega) only [mset_n]
        exact this
      · have := T1.2.2.2.2.1 r u
        have fr : ∀ i j, 5 ≤ i → i ≤ 9 → bgN n m i j = mkN n kd m 0 i j := by
          intro i j u v
          unfold bgN
          rw [mset_n (by omega), mset_n (by omega), ← hkd]
        have f2 : ∀ j, bgN n m 2 j = mkN n kd m 0 2 j := by
          intro j
          unfold bgN
          rw [mset_n (by omega), mset_n (by omega), ← hkd]
        unfold TmR
        rw [fr 5 r (by omega) (by omega), fr 6 r (by omega) (by omega), fr 7 r (by omega) (by omega), fr 8 r (by omega) (by omega), fr 9 r (by omega) (by omega), f2]
        simp (disch := omega) only [mset_n]
        exact this
      · have := (T1.2.2.2.2.2.1 f u).2.2.2.2.2.1
        simp (disch := omega) only [mset_n]
        exact this
      · simp (disch := omega) only [mset_n]
        exact T1.2.2.2.2.2.2 k u
      · simp (disch := omega) only [mset_n]
        rw [w3 a y (by omega)]
        exact y1 a y (by omega) (by omega)
      · rw [mset_n (by omega)]
        exact y2 a y (by omega)
    simp (disch := omega) only [mck_s, sI_nn, nn_s, sI_lt, sI_le, sI_eq, sI_ltl, sI_lel, sI_eql, sI_llt, sI_lle, sI_1, bI_0, bI_1, bI_n, mlet, mb3_s, mb2_s]
    rw [t2]
    by_cases h7 : n 2 m ≤ 7
    · rw [if_neg (by rw [hv3, decide_eq_true h7]; decide)]
      unfold fX17_start_b130 fX17_start_b143
      simp (disch := omega) only [mck_s, sI_nn, nn_s, sI_lt, sI_le, sI_eq, sI_ltl, sI_lel, sI_eql, sI_llt, sI_lle, sI_1, bI_0, bI_1, bI_n, mlet, mb3_s, mb2_s]
      rw [if_neg (by omega)]
      exact wq_some (done _ _ (by rw [hst, if_pos h7]; rfl) rfl)
    · rw [if_pos (by rw [hv3, decide_eq_false h7]; rfl)]
      unfold fX17_start_b130 fX17_start_b143
      simp (disch := omega) only [mck_s, sI_nn, nn_s, sI_lt, sI_le, sI_eq, sI_ltl, sI_lel, sI_eql, sI_llt, sI_lle, sI_1, bI_0, bI_1, bI_n, mlet, mb3_s, mb2_s]
      rw [if_neg (by omega)]
      exact wq_some (done _ _ (by rw [hst, if_neg h7]; rfl) rfl)
  unfold DX17_start fX17_start_b35 fX17_start_b51 fX17_start_b62
  have h100 := hM.2.2.1
  rw [sz rfl rfl, mb3_s]
  by_cases h7 : n 2 m ≤ 7
  · rw [if_neg (by rw [sI_lle (by decide) (by omega)]; omega), sz rfl rfl, mb3_s, sz rfl rfl, mb3_s, if_neg (by rw [sI_lle (by decide) (by omega)]; omega), if_neg (by decide), if_neg (by decide)]
    exact fin 0 (n 2 m) 3 (by rw [if_pos h7]) (by rw [if_pos h7]) (by rw [if_pos h7]) 1 (by rw [decide_eq_true h7]; rfl)
  · rw [if_pos (by rw [sI_lle (by decide) (by omega)]; omega), sz rfl rfl, mb3_s, if_pos (by rw [sI_lel (by omega) (by decide)]; omega), sz rfl rfl, mb3_s, if_pos (by rw [sI_lle (by decide) (by omega)]; omega), if_pos rfl, if_pos rfl, sz rfl rfl, mb3_s]
    exact fin 1 6 1 (by rw [if_neg h7]) (by rw [if_neg h7]) (by rw [if_neg h7]) 0 (by rw [decide_eq_false h7]; rfl)
