/-! the reference: a frame is taken, all of it -/
theorem rm_1 {M M' : mwM} {L L' : mwL} {n n' o : Nat → Nat → Nat} {r : Nat} (h : ∀ x, x < 4 → TmR M L n o x) (h7 : ∀ x, x < 4 → n 5 x = 1 → n 7 x ≤ 200) (h0 : ∀ i j, ¬ (5 ≤ i ∧ i ≤ 9 ∧ j = r) → n' i j = n i j) (hA : ∀ a y, 882 ≤ a → a ≤ 890 → y ≠ r → M' a y = M a y) (hB : ∀ y, ¬ (10000 * r ≤ y ∧ y < 10000 * r + 10000) → M' 891 y = M 891 y) (hL : ∀ y, y ≠ r → L' 889 y = L 889 y) (h1 : TmR M' L' n' o r) : ∀ x, x < 4 → TmR M' L' n' o x := by
  intro x u
  by_cases hq : x = r
  · rw [hq]; exact h1
  · have t := h x u
    unfold TmR at t ⊢
    rw [h0 5 x (by omega), h0 6 x (by omega), h0 7 x (by omega), h0 8 x (by omega), h0 9 x (by omega), h0 2 _ (by omega), hA 882 x (by omega) (by omega) hq, hA 883 x (by omega) (by omega) hq, hA 884 x (by omega) (by omega) hq, hA 885 x (by omega) (by omega) hq, hA 886 x (by omega) (by omega) hq, hA 887 x (by omega) (by omega) hq, hA 890 x (by omega) (by omega) hq, hL x hq]
    refine ⟨t.1, fun z => ?_⟩
    have t2 := t.2 z
    have := h7 x u z
    refine ⟨t2.1, t2.2.1, t2.2.2.1, t2.2.2.2.1, t2.2.2.2.2.1, t2.2.2.2.2.2.1, t2.2.2.2.2.2.2.1, fun i w => ?_⟩
    rw [hB _ (by omega)]
    exact t2.2.2.2.2.2.2.2 i w
theorem R_7 {n : Nat → Nat → Nat} {b : Nat → Nat → Bool} (hv : TfV n b) : ∀ x, x < 4 → n 5 x = 1 → n 7 x ≤ 200 := by
  intro x u z
  have := (hv.2.2.1 x u).2 z
  omega
theorem m_takeNext17 {fu f r m sq : Nat} {M : mwM} {L : mwL} {p : PB} {o : Nat → Nat → Nat} {e : Nat → Nat} (hfu : 200 ≤ fu) (hv : TfV p.1 p.2) (h : TfM M L (p.1 0 3) p.1 p.2 o e) (hf : f < p.1 0 1) (hk : p.1 10 f = 2) (hm : p.1 11 f = m) (hsq : p.1 12 f = sq) (hr : r = m % 4) (a1 : p.1 5 r = 1) (a2 : p.1 6 r = m) : wq (DX17_takeNext fu (sI r) (sI (f + 1)) M L) (fun z => ∃ e', TfM z.1 z.2 (p.1 0 3) (nxQ m sq p).1.1 (nxQ m sq p).1.2 o e' ∧ eQ 1 e p.2 e' (nxQ m sq p).1.2 ∧ rvM z.1 p.1 o (nxQ m sq p).2 e e' ∧ rFr M z.1 ∧ rFl L z.2) := by
  have hF := Tf_F hv
  have hg := hv.2.2.2 f hf
  have hK := hv.1.1
  have hr4 : r < 4 := by rw [hr]; exact Nat.mod_lt _ (by omega)
  have tf := h.2.2.2.2.2.1 f hf
  have tr := h.2.2.2.2.1 r hr4
  have hR := (hv.2.2.1 r hr4).2 a1
  rw [hm] at hg
  have hM := hv.2.1 m hg.2.1 hg.2.2.1
  have to := (h.2.2.1 m hg.2.1 hg.2.2.1).1
  obtain ⟨c1, c2, c3, c4, c5, c6, c7, c8⟩ := tr.2 a1
  have nu : nuO p.1 f = sq := by
    unfold nuO
    rw [if_neg (by omega), hsq]
  have h2 := hg.2.2.2.2.2.2.1 hk
  rw [hsq] at h2
  have fr : frO 2 sq = 6 + 7 * (sq - 1) := rfl
  have fr' : frO (p.1 10 f) (p.1 12 f) = 6 + 7 * (sq - 1) := by rw [hk, hsq]; rfl
  have cv : coO p.1 f = if p.1 2 m - (6 + 7 * (sq - 1)) ≤ 7 then p.1 2 m - (6 + 7 * (sq - 1)) else 7 := by
    unfold coO
    rw [if_neg (by omega), if_neg (by omega), if_neg (by omega), hm, hsq, fr]
  have h100 := hM.2.2.1
  generalize hc : coO p.1 f = c at *
  have hc7 : c ≤ 7 := by
    rw [cv]
    split <;> omega
  unfold TmF at tf
  rw [nu, hc, fr', hm] at tf
  have e3 := h.2.2.2.2.2.2 3 (by omega)
  unfold DX17_takeNext fX17_takeNext_b116
  rw [mck_s (by omega) (by omega), mck_s hr4 (by omega), sI_nn (by omega), sI_nn (by omega), tf.2.2.1, c4]
  have enx : nxQ m sq p = (if p.1 8 r = sq then (if p.1 7 r + 7 < p.1 2 m then ((gtN r sq p.1, p.2), 0) else ((mset p.1 5 r 2, p.2), m)) else ((mset p.1 5 r 3, mset p.2 2 0 true), 0)) := by
    unfold nxQ
    rw [← hr, if_pos ⟨a1, a2⟩]
  rw [enx]
  by_cases b1 : p.1 8 r = sq
  · rw [if_pos (show sI sq = sI (p.1 8 r) by rw [b1]), if_pos b1, mck_s hr4 (by omega), mck_s hr4 (by omega)]
    simp only [mlet]
    rw [mck_s hr4 (by omega), mck_s hr4 (by omega), sI_1, show sI (p.1 8 r + 1) - sI (p.1 8 r + 1) / 16 * 16 = sI ((p.1 8 r + 1) % 16) from sI_mod (b := 16) (by omega) (by omega), Nat.mod_eq_of_lt (show p.1 8 r + 1 < 16 by omega), h.1.2.1]
    have e7 : p.1 7 r = 6 + 7 * (sq - 1) := by rw [hR.2.2.2.2.2.1, b1]
    generalize hN : mset (mset M 886 r (sI (p.1 8 r + 1))) 890 r (vp_nar .boolean 0) = N
    have nf : ∀ a y, ¬ (y = r ∧ (a = 886 ∨ a = 890)) → N a y = M a y := fun a y u => by rw [← hN, mset_n (by omega), mset_n (by omega)]
    have n86 : N 886 r = sI (p.1 8 r + 1) := by rw [← hN, mset_n (by omega), mset_s]
    have n90 : N 890 r = 0 := by rw [← hN, mset_s]; rfl
    refine wq_b2 (m_put17 (c := c) (d := p.1 7 r) (v := fun k => o m (6 + 7 * (sq - 1) + k)) (by omega) hr4 (by omega) hc7 (by omega) (by rw [nf _ _ (by omega)]; exact tf.2.2.2.1) (by rw [nf _ _ (by omega)]; exact c3) (fun k u => ?_)) ?_
    · rw [nf _ _ (by omega)]
      refine ⟨tf.2.2.2.2.2.2 k u, (to _ ?_).2⟩
      rw [cv] at u
      split at u <;> omega
    rintro M1 L1 ⟨y1, y2, y3, y4⟩
    dsimp only at y1 y2 y3 y4
    subst y1
    rw [mck_s hr4 (by omega), mck_s hr4 (by omega), y2, y4 884 r (by omega) (by omega), nf 884 r (by omega), c2, a2]
    have buf : ∀ i, i < p.1 7 r + c → M1 891 (10000 * r + i) = sB (o m i) := by
      intro i u
      by_cases hi : i < p.1 7 r
      · rw [y4 891 _ (by omega) (by omega), nf 891 _ (by omega)]
        have := c8 i hi
        rw [a2] at this
        exact this
      · have := y3 (i - p.1 7 r) (by omega)
        rw [show 10000 * r + p.1 7 r + (i - p.1 7 r) = 10000 * r + i by omega, show 6 + 7 * (sq - 1) + (i - p.1 7 r) = i by omega] at this
        exact this
    by_cases b2 : p.1 7 r + 7 < p.1 2 m
    · have hcc : c = 7 := by rw [cv, if_neg (by omega)]
      rw [if_neg (by rw [sI_eq (by omega) (by omega)]; omega), mck_s hr4 (by omega), mck_s hr4 (by omega), mck_s hr4 (by omega), if_pos b2]
      have z87 : mset M1 888 r (M1 888 r - 1) 887 r = 0 := by rw [mset_n (by omega), y4 887 r (by omega) (by omega), nf 887 r (by omega), c5]
      rw [z87, if_pos (by decide)]
      refine wq_some ⟨e, ?_, ⟨Nat.le_refl _, by omega, by rw [decide_eq_false (by omega), Bool.or_false]⟩, ⟨fun _ => rfl, fun z => absurd rfl z⟩, fun a y u => ?_, fun a y u => ?_⟩
      all_goals (try dsimp only)
      · have gf : ∀ i j, ¬ (5 ≤ i ∧ i ≤ 9 ∧ j = r) → gtN r sq p.1 i j = p.1 i j := fun i j u => by
          unfold gtN
          rw [mset_n (by omega), mset_n (by omega), mset_n (by omega)]
        refine TfM_ch h (fun a y u => ?_) (by rw [mset_n (by omega)]; exact h.1.2.1) (fun i j u v => gf i j (by omega)) (fun x u v => ?_) (fun x u v => ?_) (rm_1 (r := r) h.2.2.2.2.1 (R_7 hv) gf (fun a y u v w => ?_) (fun y u => ?_) (fun y u => mset_j u) ?_) (fun g u => ?_) (fun k u => ?_)
        · rw [mset_n (by omega), y4 a y (by omega) (by omega), nf a y (by omega)]
        · have t := (h.2.2.1 x u v).2
          unfold TmS at t ⊢
          rw [gf 3 x (by omega), gf 4 x (by omega)]
          simp (disch := omega) only [mset_n, y4, nf]
          exact t
        · have t := h.2.2.2.1 x u v
          simp (disch := omega) only [mset_n, y4, nf]
          exact t
        · rw [mset_n (by omega), y4 a y (by omega) (by omega), nf a y (by omega)]
        · rw [mset_n (by omega), y4 891 y (by omega) (by omega), nf 891 y (by omega)]
        · unfold TmR gtN
          simp (disch := omega) only [mset_n, mset_s]
          rw [y4 882 r (by omega) (by omega), nf 882 r (by omega), y4 883 r (by omega) (by omega), nf 883 r (by omega), y4 884 r (by omega) (by omega), nf 884 r (by omega), y4 886 r (by omega) (by omega), n86, y4 887 r (by omega) (by omega), nf 887 r (by omega), y4 890 r (by omega) (by omega), n90, y2, b1, hcc]
          refine ⟨tr.1, fun _ => ⟨c1, c2, rfl, rfl, c5, trivial, rfl, fun i u => ?_⟩⟩
          rw [a2]
          exact buf i (by omega)
        · have t := (h.2.2.2.2.2.1 g u).2.2.2.2.2.1
          simp (disch := omega) only [mset_n, y4, nf]
          exact t
        · have t := h.2.2.2.2.2.2 k u
          simp (disch := omega) only [mset_n, y4, nf]
          exact t
      · rw [mset_n (by omega), y4 a y (by omega) (by omega), nf a y (by omega)]
      · rw [mset_n (by omega)]
    · have hcc : p.1 7 r + c = p.1 2 m := by
        rw [cv, if_pos (by omega)]
        rw [a2] at hR
        omega
      rw [hcc] at buf
      rw [if_pos (by rw [hcc]), if_neg b2]
      refine wq_b2 (m_whole17 (len := p.1 2 m) (e0 := e 0) (v := fun k => o m k) hfu hr4 (by omega) ?_ ?_ (fun k u => ⟨buf k u, (to k u).2⟩)) ?_
      · rw [y4 884 r (by omega) (by omega), nf 884 r (by omega), c2, a2]
      · rw [y4 901 0 (by omega) (by omega), nf 901 0 (by omega)]
        exact h.2.2.2.2.2.2 0 (by omega)
      rintro M2 L2 ⟨w1, w2, w3, w4, w5, w6⟩
      dsimp only at w1 w2 w3 w4 w5 w6
      subst w1
      have hM2 : ∀ a y, ¬ (882 ≤ a ∧ a ≤ 891) → ¬ (a = 901 ∧ y = 0) → ¬ (a = 869 ∧ y = 40) → a ≠ 900 → M2 a y = M a y := fun a y u1 u2 u3 u4 => by
        rw [w6 a y (by omega) u2 u3 u4, y4 a y (by omega) (by omega), nf a y (by omega)]
      refine wq_some ⟨eU e 0, ?_, ?_, ⟨fun z => absurd z (by omega), fun _ => ⟨by unfold eU; rw [if_pos rfl], w4, w5⟩⟩, fun a y u => ?_, fun a y u => ?_⟩
      all_goals (try dsimp only)
      · refine TfM_ch h (fun a y u => ?_) (by rw [mset_n (by omega)]; exact h.1.2.1) (fun i j u v => mset_n (by omega)) (fun x u v => ?_) (fun x u v => ?_) (rm_1 (r := r) h.2.2.2.2.1 (R_7 hv) (fun i j u => mset_n (by omega)) (fun a y u v w => ?_) (fun y u => ?_) (fun y u => mset_j u) ?_) (fun g u => ?_) (fun k u => ?_)
        · exact hM2 a y (by omega) (by omega) (by omega) (by omega)
        · have t := (h.2.2.1 x u v).2
          unfold TmS at t ⊢
          simp (disch := omega) only [mset_n, hM2]
          exact t
        · have t := h.2.2.2.1 x u v
          simp (disch := omega) only [mset_n, hM2]
          exact t
        · rw [w6 a y (by omega) (by omega) (by omega) (by omega), y4 a y (by omega) (by omega), nf a y (by omega)]
        · rw [w6 891 y (by omega) (by omega) (by omega) (by omega), y4 891 y (by omega) (by omega), nf 891 y (by omega)]
        · unfold TmR
          rw [mset_s, w2]
          exact ⟨rfl, fun z => by omega⟩
        · have t := (h.2.2.2.2.2.1 g u).2.2.2.2.2.1
          simp (disch := omega) only [mset_n, hM2]
          exact t
        · by_cases hq : k = 0
          · rw [hq, w3]
            unfold eU
            rw [if_pos rfl]
          · have t := h.2.2.2.2.2.2 k u
            rw [hM2 901 k (by omega) (by omega) (by omega) (by omega), t]
            unfold eU
            rw [if_neg hq]
      · refine ⟨by rw [eS_0]; exact Nat.le_refl _, by rw [eS_0]; omega, ?_⟩
        rw [eS_0, decide_eq_false (by omega), Bool.or_false]
      · exact hM2 a y (by omega) (by omega) (by omega) (by omega)
      · rw [mset_n (by omega)]
  · rw [if_neg (show ¬ sI sq = sI (p.1 8 r) by rw [sI_eq (by omega) (by omega)]; omega), if_neg b1]
    rw [show (3 : Int32) = sI 3 from rfl, m_endReceiver17 hr4 (by omega) e3, mb2_s]
    refine wq_some ⟨eU e 3, ?_, (eR_1 (by omega) (by dsimp only; rw [mset_s])).2, ⟨fun _ => rfl, fun z => absurd rfl z⟩, fun a y u => ?_, fun a y u => rfl⟩
    all_goals (try dsimp only)
    · refine TfM_ch h (fun a y u => by rw [mset_n (by omega), mset_n (by omega)]) h.1.2.1 (fun i j u v => mset_n (by omega)) (fun x u v => ?_) (fun x u v => ?_) (rm_1 (r := r) h.2.2.2.2.1 (R_7 hv) (fun i j u => mset_n (by omega)) (fun a y u v w => by rw [mset_n (by omega), mset_n (by omega)]) (fun y u => by rw [mset_n (by omega), mset_n (by omega)]) (fun y u => rfl) ?_) (fun g u => ?_) (fun k u => ?_)
      · have t := (h.2.2.1 x u v).2
        unfold TmS at t ⊢
        simp (disch := omega) only [mset_n]
        exact t
      · have t := h.2.2.2.1 x u v
        simp (disch := omega) only [mset_n]
        exact t
      · unfold TmR
        rw [mset_s, mset_n (show ¬ (882 = 901 ∧ r = 3) by omega), mset_s]
        exact ⟨rfl, fun z => by omega⟩
      · have t := (h.2.2.2.2.2.1 g u).2.2.2.2.2.1
        simp (disch := omega) only [mset_n]
        exact t
      · by_cases hq : k = 3
        · rw [hq, mset_s]
          rfl
        · rw [mset_j hq, mset_n (by omega), h.2.2.2.2.2.2 k u]
          unfold eU
          rw [if_neg hq]
    · rw [mset_n (by omega), mset_n (by omega)]
