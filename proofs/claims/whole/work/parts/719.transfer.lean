theorem m_answer17 {fu r m τ F : Nat} {M : mwM} {L : mwL} (hr : r < 4) (hF : F < 1600) (h26 : M 869 26 = sI F) (h2 : L 869 2 = sL τ) (h35 : M 869 35 = sI 0) (h36 : M 869 36 = sI 0) (h37 : M 869 37 = sI 0) (h883 : M 883 r = sI m) : wq (DX17_answer fu (sI r) M L) (fun z => (∀ a y, ¬ (892 ≤ a ∧ a ≤ 898 ∧ y = F + 1) → ¬ (a = 869 ∧ y = 26) → ¬ (y = r ∧ (a = 887 ∨ a = 888 ∨ a = 890)) → z.1 a y = M a y) ∧ (∀ a y, a ≠ 897 → ¬ (a = 889 ∧ y = r) → z.2 a y = L a y) ∧ z.2 889 r = sL τ ∧ z.1 887 r = 0 ∧ z.1 890 r = 0 ∧ z.1 869 26 = sI (F + 1) ∧ z.1 892 (F + 1) = sI 3 ∧ z.1 893 (F + 1) = sI m ∧ z.1 894 (F + 1) = sI 0 ∧ z.1 895 (F + 1) = sI 0 ∧ z.1 896 (F + 1) = sI 0 ∧ z.1 898 (F + 1) = 0) := by
  unfold DX17_answer
  rw [mck_s hr (by omega), sI_nn (by omega), h883, h35, h36, h37]
  refine wq_b3 (m_make17 (τ := τ) hF h26 h2) ?_
  rintro g1 M1 L1 ⟨y0, y1, y2, y3, y4, y5, y6, y7, y8, y9⟩
  dsimp only at y0 y1 y2 y3 y4 y5 y6 y7 y8 y9
  rw [y0, if_neg (by rw [sI_eql (by omega) (by decide)]; omega), mck_s hr (by omega), y1 869 37 (by omega) (by omega), h37, y2 869 2 (by omega), h2]
  simp only [mlet]
  rw [if_neg (show ¬ sI 0 = 1 by decide)]
  unfold fX17_answer_b62 fX17_answer_b90 fX17_answer_b104
  rw [mck_s hr (by omega), sI_nn (by omega)]
  simp only [mlet]
  have q37 : ∀ x y z, mset M1 890 r x 869 37 = sI 0 ∧ mset (mset (mset M1 890 r x) 887 r y) 888 r z 869 37 = sI 0 := fun x y z => by
    constructor
    · rw [mset_n (by omega), y1 869 37 (by omega) (by omega), h37]
    · rw [mset_n (by omega), mset_n (by omega), mset_n (by omega), y1 869 37 (by omega) (by omega), h37]
  have q35 : ∀ x y, mset M1 890 r x 869 35 = sI 0 ∧ mset (mset M1 890 r x) 887 r y 869 35 = sI 0 := fun x y => by
    constructor
    · rw [mset_n (by omega), y1 869 35 (by omega) (by omega), h35]
    · rw [mset_n (by omega), mset_n (by omega), y1 869 35 (by omega) (by omega), h35]
  rw [(q37 _ 0 0).1, if_pos (show sI 0 = 0 from rfl), mck_s hr (by omega), mck_s hr (by omega), (q35 _ 0).1, (q35 _ _).2, (q37 _ _ _).2, if_neg (by decide)]
  refine wq_some ⟨fun a y u1 u2 u3 => ?_, fun a y u1 u2 => ?_, ?_, ?_, ?_, ?_⟩
  all_goals (try dsimp only)
  · simp (disch := omega) only [mset_n]
    exact y1 a y u1 u2
  · rw [mset_n u2]; exact y2 a y u1
  · rw [mset_s]
  · rw [mset_n (by omega), mset_s]; rfl
  · rw [mset_n (by omega), mset_n (by omega), mset_s]; rfl
  · simp (disch := omega) only [mset_n]
    exact ⟨y3, y4, y5, y6, y7, y8, y9⟩
theorem eQ_t {k k' : Nat} {e e' e'' : Nat → Nat} {b b' b'' : Nat → Nat → Bool} (h1 : eQ k e b e' b') (h2 : eQ k' e' b' e'' b'') : eQ (k + k') e b e'' b'' := by
  obtain ⟨a2, a3, a4⟩ := h1
  obtain ⟨c2, c3, c4⟩ := h2
  refine ⟨by omega, by omega, ?_⟩
  rw [c4, a4]
  by_cases q1 : eS e < eS e'
  · rw [decide_eq_true q1, decide_eq_true (show eS e < eS e'' by omega)]
    simp
  · by_cases q2 : eS e' < eS e''
    · rw [decide_eq_true q2, decide_eq_true (show eS e < eS e'' by omega)]
      simp
    · rw [decide_eq_false q1, decide_eq_false q2, decide_eq_false (show ¬ eS e < eS e'' by omega)]
      simp
theorem m_take17 {fu f : Nat} {M : mwM} {L : mwL} {p : PB} {o : Nat → Nat → Nat} {e : Nat → Nat} (hfu : 200 ≤ fu) (hv : TfV p.1 p.2) (hF1 : p.1 0 1 < 1600 ∨ p.1 10 f ≠ 1) (h : TfM M L (p.1 0 3) p.1 p.2 o e) (hf : f < p.1 0 1) (hk : p.1 10 f ≠ 3) : wq (DX17_take fu (sI (f + 1)) M L) (fun z => ∃ e', TfM z.2.1 z.2.2 (p.1 0 3) (rvQ f p).1.1 (rvQ f p).1.2 o e' ∧ eQ 1 e p.2 e' (rvQ f p).1.2 ∧ rvM z.2.1 p.1 o (rvQ f p).2 e e' ∧ rFr M z.2.1 ∧ rFl L z.2.2) := by
  have hF := Tf_F hv
  have hg := hv.2.2.2 f hf
  have hK := hv.1.1
  have tf := h.2.2.2.2.2.1 f hf
  have hc7 := co_le (TfV_W.mp hv).1 hf
  generalize hm : p.1 11 f = m at *
  have hr4 : m % 4 < 4 := Nat.mod_lt _ (by omega)
  generalize hr : m % 4 = r at *
  have tr := h.2.2.2.2.1 r hr4
  have v3 := (hv.2.2.1 r hr4).1
  have hM := hv.2.1 m hg.2.1 hg.2.2.1
  have to := (h.2.2.1 m hg.2.1 hg.2.2.1).1
  have h100 := hM.2.2.1
  unfold TmF at tf
  rw [hm] at tf
  unfold DX17_take fX17_take_b50
  rw [mck_s (by omega) (by omega), sI_nn (by omega), tf.2.1, show sI m - sI m / 4 * 4 = sI (m % 4) from sI_mod (b := 4) (by omega) (by omega), hr]
  simp only [mlet]
  rw [mck_s (by omega) (by omega), tf.1]
  by_cases k2 : p.1 10 f = 2
  · have er : rvQ f p = nxQ m (p.1 12 f) p := by
      unfold rvQ
      rw [if_neg hk, if_pos k2, hm]
    rw [er, if_pos (show sI (p.1 10 f) = 2 by rw [k2]; rfl), mck_s hr4 (by omega), sI_nn (by omega), tr.1]
    have none : ¬ (p.1 5 r = 1 ∧ p.1 6 r = m) → wq (mck (sI r) 4 (some (M 882 r, M, L))) (fun z => ∃ e', TfM z.2.1 z.2.2 (p.1 0 3) (nxQ m (p.1 12 f) p).1.1 (nxQ m (p.1 12 f) p).1.2 o e' ∧ eQ 1 e p.2 e' (nxQ m (p.1 12 f) p).1.2 ∧ rvM z.2.1 p.1 o (nxQ m (p.1 12 f) p).2 e e' ∧ rFr M z.2.1 ∧ rFl L z.2.2) := by
      intro hno
      have en : nxQ m (p.1 12 f) p = (p, 0) := by
        unfold nxQ
        rw [hr, if_neg hno]
      rw [en, mck_s hr4 (by omega)]
      exact wq_some ⟨e, h, ⟨Nat.le_refl _, by omega, by rw [decide_eq_false (by omega), Bool.or_false]⟩, ⟨fun _ => rfl, fun z => absurd rfl z⟩, fun _ _ _ => rfl, fun _ _ _ => rfl⟩
    by_cases a1 : p.1 5 r = 1
    · have t2 := tr.2 a1
      have hR := (hv.2.2.1 r hr4).2 a1
      rw [if_pos (show sI (p.1 5 r) = 1 by rw [a1]; rfl), mck_s hr4 (by omega), mck_s (by omega) (by omega), t2.1]
      by_cases a2 : p.1 6 r = m
      · rw [if_pos (show sI (p.1 6 r) = sI m by rw [a2])]
        refine wq_b2 (m_takeNext17 hfu hv h hf k2 hm rfl hr.symm a1 a2) ?_
        rintro M1 L1 ⟨e1, q1, q2, q3, q4, q5⟩
        dsimp only at q1 q2 q3 q4 q5
        rw [mck_s hr4 (by omega)]
        exact wq_some ⟨e1, q1, q2, q3, q4, q5⟩
      · rw [if_neg (show ¬ sI (p.1 6 r) = sI m by rw [sI_eq (by omega) (by omega)]; exact a2)]
        exact tr.1 ▸ none (fun z => a2 z.2)
    · rw [if_neg (show ¬ sI (p.1 5 r) = 1 by rw [sI_eql (by omega) (by decide)]; exact a1)]
      exact tr.1 ▸ none (fun z => a1 z.1)
  · rw [if_neg (show ¬ sI (p.1 10 f) = 2 by rw [sI_eql (by omega) (by decide)]; exact k2), mck_s hr4 (by omega), sI_nn (by omega), tr.1]
    have er : rvQ f p = (if p.1 10 f = 0 then ((mset p.1 5 r 2, reB r p), m) else (fsP m p, 0)) := by
      unfold rvQ
      rw [if_neg hk, if_neg k2, hm, hr]
    rw [er]
    have k01 : p.1 10 f = 0 ∨ p.1 10 f = 1 := by omega
    have hfr : frO (p.1 10 f) (p.1 12 f) = 0 := by
      unfold frO
      rw [if_neg k2]
    rw [hfr] at tf
    -- behind the end of what was being received
    have fin : ∀ (M0 : mwM) (e0 : Nat → Nat), (∀ a y, ¬ (a = 882 ∧ y = r) → a ≠ 901 → M0 a y = M a y) → (∀ k, k < 8 → M0 901 k = sI (e0 k)) → eR 1 e p.2 e0 (reB r p) → wq (fX17_take_b74 fu (sI (f + 1)) (sI r) M0 L) (fun z => ∃ e', TfM z.2.1 z.2.2 (p.1 0 3) (if p.1 10 f = 0 then ((mset p.1 5 r 2, reB r p), m) else (fsP m p, 0)).1.1 (if p.1 10 f = 0 then ((mset p.1 5 r 2, reB r p), m) else (fsP m p, 0)).1.2 o e' ∧ eQ 1 e p.2 e' (if p.1 10 f = 0 then ((mset p.1 5 r 2, reB r p), m) else (fsP m p, 0)).1.2 ∧ rvM z.2.1 p.1 o (if p.1 10 f = 0 then ((mset p.1 5 r 2, reB r p), m) else (fsP m p, 0)).2 e e' ∧ rFr M z.2.1 ∧ rFl L z.2.2) := by
      intro M0 e0 m0 he0 hE
      unfold fX17_take_b74
      rw [mck_s (by omega) (by omega), mck_s hr4 (by omega), sI_nn (by omega), sI_nn (by omega), m0 893 _ (by omega) (by omega), tf.2.1]
      simp only [mlet]
      rw [mck_s hr4 (by omega), mck_s hr4 (by omega), mck_s (by omega) (by omega), mck_s (by omega) (by omega), mck_s (by omega) (by omega)]
      generalize hN : mset (mset (mset M0 883 r (sI m)) 885 r 0) 887 r 0 = N
      have nf : ∀ a y, ¬ (y = r ∧ (a = 882 ∨ a = 883 ∨ a = 885 ∨ a = 887)) → a ≠ 901 → N a y = M a y := fun a y u v => by rw [← hN, mset_n (by omega), mset_n (by omega), mset_n (by omega), m0 a y (by omega) v]
      have n83 : N 883 r = sI m := by rw [← hN, mset_n (by omega), mset_n (by omega), mset_s]
      have n85 : N 885 r = sI 0 := by rw [← hN, mset_n (by omega), mset_s]; rfl
      have n87 : N 887 r = 0 := by rw [← hN, mset_s]
      have n901 : ∀ k, k < 8 → N 901 k = sI (e0 k) := fun k u => by rw [← hN, mset_n (by omega), mset_n (by omega), mset_n (by omega)]; exact he0 k u
      rw [nf 892 _ (by omega) (by omega), tf.1, nf 895 _ (by omega) (by omega), tf.2.2.2.1, nf 894 _ (by omega) (by omega), tf.2.2.1]
      unfold fX17_take_b129 fX17_take_b222
      by_cases k0 : p.1 10 f = 0
      · have hco : coO p.1 f = p.1 2 m := by
          unfold coO
          rw [if_pos k0, hm]
        rw [hco] at tf hc7 ⊢
        rw [if_pos (show sI (p.1 10 f) = 0 by rw [k0]; rfl), mck_s hr4 (by omega), sI_nn (by omega)]
        simp only [mlet]
        rw [mck_s (by omega) (by omega), sI_nn (by omega), mset_n (show ¬ (892 = 884 ∧ f + 1 = r) by omega), nf 892 _ (by omega) (by omega), tf.1, if_pos (show sI (p.1 10 f) = 0 by rw [k0]; rfl), if_pos k0]
        refine wq_b2 (m_put17 (c := p.1 2 m) (d := 0) (v := fun k => o m k) (by omega) hr4 (by omega) hc7 (by omega) (by rw [mset_n (by omega), nf _ _ (by omega) (by omega)]; exact tf.2.2.2.1) (by rw [mset_n (by omega)]; exact n85) (fun k u => ?_)) ?_
        · rw [mset_n (by omega), nf _ _ (by omega) (by omega)]
          have := tf.2.2.2.2.2.2 k u
          rw [Nat.zero_add] at this
          exact ⟨this, (to k u).2⟩
        rintro M1 L1 ⟨y1, y2, y3, y4⟩
        dsimp only at y1 y2 y3 y4
        subst y1
        refine wq_b2 (m_whole17 (len := p.1 2 m) (e0 := e0 0) (v := fun k => o m k) hfu hr4 (by omega) ?_ ?_ (fun k u => ⟨?_, (to k u).2⟩)) ?_
        · rw [y4 884 r (by omega) (by omega), mset_s]
        · rw [y4 901 0 (by omega) (by omega), mset_n (by omega)]; exact n901 0 (by omega)
        · exact y3 k u
        rintro M2 L2 ⟨w1, w2, w3, w4, w5, w6⟩
        dsimp only at w1 w2 w3 w4 w5 w6
        subst w1
        have hM2 : ∀ a y, ¬ (882 ≤ a ∧ a ≤ 891) → a ≠ 901 → ¬ (a = 869 ∧ y = 40) → a ≠ 900 → M2 a y = M a y := fun a y u1 u2 u3 u4 => by
          rw [w6 a y (by omega) (by omega) u3 u4, y4 a y (by omega) (by omega), mset_n (by omega), nf a y (by omega) u2]
        rw [mck_s hr4 (by omega)]
        refine wq_some ⟨eU e0 0, ?_, ?_, ⟨fun z => absurd z (by omega), fun _ => ⟨by unfold eU; rw [if_pos rfl, hE.1], w4, w5⟩⟩, fun a y u => ?_, fun a y u => rfl⟩
        all_goals (try dsimp only)
        · refine TfM_ch h (fun a y u => ?_) h.1.2.1 (fun i j u v => mset_n (by omega)) (fun x u v => ?_) (fun x u v => ?_) (rm_1 (r := r) h.2.2.2.2.1 (R_7 hv) (fun i j u => mset_n (by omega)) (fun a y u v w => ?_) (fun y u => ?_) (fun y u => rfl) ?_) (fun g u => ?_) (fun k u => ?_)
          · exact hM2 a y (by omega) (by omega) (by omega) (by omega)
          · have t := (h.2.2.1 x u v).2
            unfold TmS at t ⊢
            simp (disch := omega) only [mset_n, hM2]
            exact t
          · have t := h.2.2.2.1 x u v
            simp (disch := omega) only [mset_n, hM2]
            exact t
          · rw [w6 a y (by omega) (by omega) (by omega) (by omega), y4 a y (by omega) (by omega), mset_n (by omega), nf a y (by omega) (by omega)]
          · rw [w6 891 y (by omega) (by omega) (by omega) (by omega), y4 891 y (by omega) (by omega), mset_n (by omega), nf 891 y (by omega) (by omega)]
          · unfold TmR
            rw [mset_s, w2]
            exact ⟨rfl, fun z => by omega⟩
          · have t := (h.2.2.2.2.2.1 g u).2.2.2.2.2.1
            rw [hM2 898 _ (by omega) (by omega) (by omega) (by omega), re_b (by omega)]
            exact t
          · by_cases hq : k = 0
            · rw [hq, w3]
              unfold eU
              rw [if_pos rfl]
            · rw [w6 901 k (by omega) (by omega) (by omega) (by omega), y4 901 k (by omega) (by omega), mset_n (by omega), n901 k u]
              unfold eU
              rw [if_neg hq]
        · obtain ⟨x1, x2, x3, x4⟩ := hE
          unfold eQ
          rw [eS_0]
          exact ⟨x2, x3, x4⟩
        · exact hM2 a y (by omega) (by omega) (by omega) (by omega)
      · have k1 : p.1 10 f = 1 := by omega
        have hF9 : p.1 0 1 < 1600 := by omega
        have hco : coO p.1 f = 6 := by
          unfold coO
          rw [if_neg k0, if_pos k1]
        have hnu : nuO p.1 f = p.1 2 m := by
          unfold nuO
          rw [if_pos k1, hm]
        have h8 := hg.2.2.2.2.2.1 (by omega)
        rw [hco, hnu] at tf
        rw [hco] at hc7
        rw [hco, hnu]
        rw [if_neg (show ¬ sI (p.1 10 f) = 0 by rw [sI_eql (by omega) (by decide)]; exact k0), mck_s hr4 (by omega), sI_nn (by omega)]
        simp only [mlet]
        rw [mck_s (by omega) (by omega), sI_nn (by omega), mset_n (show ¬ (892 = 884 ∧ f + 1 = r) by omega), nf 892 _ (by omega) (by omega), tf.1, if_neg (show ¬ sI (p.1 10 f) = 0 by rw [sI_eql (by omega) (by decide)]; exact k0), if_neg k0, mck_s (by omega) (by omega), mset_n (show ¬ (894 = 884 ∧ f + 1 = r) by omega), nf 894 _ (by omega) (by omega), tf.2.2.1, mset_n (show ¬ (869 = 884 ∧ 1 = r) by omega), nf 869 1 (by omega) (by omega), h.1.1, if_pos (by rw [sI_le (by omega) (by omega)]; omega), mck_s hr4 (by omega), mck_s hr4 (by omega)]
        generalize hN2 : mset (mset (mset N 884 r (sI (p.1 2 m))) 882 r 1) 886 r 1 = N2
        have nf2 : ∀ a y, ¬ (y = r ∧ (882 ≤ a ∧ a ≤ 887)) → a ≠ 901 → N2 a y = M a y := fun a y u v => by rw [← hN2, mset_n (by omega), mset_n (by omega), mset_n (by omega), nf a y (by omega) v]
        have p82 : N2 882 r = sI 1 := by rw [← hN2, mset_n (by omega), mset_s]; rfl
        have p83 : N2 883 r = sI m := by rw [← hN2, mset_n (by omega), mset_n (by omega), mset_n (by omega), n83]
        have p84 : N2 884 r = sI (p.1 2 m) := by rw [← hN2, mset_n (by omega), mset_n (by omega), mset_s]
        have p85 : N2 885 r = sI 0 := by rw [← hN2, mset_n (by omega), mset_n (by omega), mset_n (by omega), n85]
        have p86 : N2 886 r = sI 1 := by rw [← hN2, mset_s]; rfl
        have p901 : ∀ k, k < 8 → N2 901 k = sI (e0 k) := fun k u => by rw [← hN2, mset_n (by omega), mset_n (by omega), mset_n (by omega)]; exact n901 k u
        refine wq_b2 (m_put17 (c := 6) (d := 0) (v := fun k => o m k) (by omega) hr4 (by omega) hc7 (by omega) (by rw [nf2 _ _ (by omega) (by omega)]; exact tf.2.2.2.1) p85 (fun k u => ?_)) ?_
        · rw [nf2 _ _ (by omega) (by omega)]
          have := tf.2.2.2.2.2.2 k u
          rw [Nat.zero_add] at this
          exact ⟨this, (to k (by omega)).2⟩
        rintro M1 L1 ⟨y1, y2, y3, y4⟩
        dsimp only at y1 y2 y3 y4
        subst y1
        have nf3 : ∀ a y, ¬ (y = r ∧ (882 ≤ a ∧ a ≤ 887)) → a ≠ 901 → a ≠ 891 → M1 a y = M a y := fun a y u v w => by rw [y4 a y (by omega) (by omega), nf2 a y u v]
        refine wq_b2 (m_answer17 (m := m) (τ := p.1 0 3) hr4 hF9 (by rw [nf3 _ _ (by omega) (by omega) (by omega)]; exact h.1.2.2.2.1) h.1.2.1 (by rw [nf3 _ _ (by omega) (by omega) (by omega)]; exact h.1.2.2.2.2.1) (by rw [nf3 _ _ (by omega) (by omega) (by omega)]; exact h.1.2.2.2.2.2.1) (by rw [nf3 _ _ (by omega) (by omega) (by omega)]; exact h.1.2.2.2.2.2.2.1) (by rw [y4 883 r (by omega) (by omega)]; exact p83)) ?_
        rintro M2 L2 ⟨w1, w2, w3, w4, w5, w6, w7, w8, w9, w10, w11, w12⟩
        dsimp only at w1 w2 w3 w4 w5 w6 w7 w8 w9 w10 w11 w12
        rw [mck_s hr4 (by omega)]
        have fo : ∀ i j, ¬ (5 ≤ i ∧ i ≤ 9 ∧ j = r) → fsN m p.1 i j = p.1 i j := by
          intro i j u
          unfold fsN
          rw [hr, mset_n (by omega), mset_n (by omega), mset_n (by omega), mset_n (by omega), mset_n (by omega)]
        -- the memory before the flow
        have TV : TfM (mset (mset (mset M1 888 r (M2 888 r)) 887 r 0) 890 r 0) (mset L1 889 r (sL (p.1 0 3))) (p.1 0 3) (fsN m p.1) (mset (reB r p) 3 m true) o e0 := by
          refine TfM_ch h (fun a y u => ?_) (by rw [mset_n (by omega)]; exact h.1.2.1) (fun i j u v => fo i j (by omega)) (fun x u v => ?_) (fun x u v => ?_) (rm_1 (r := r) h.2.2.2.2.1 (R_7 hv) fo (fun a y u v w => ?_) (fun y u => ?_) (fun y u => mset_j u) ?_) (fun g u => ?_) (fun k u => ?_)
          · rw [mset_n (by omega), mset_n (by omega), mset_n (by omega)]
            exact nf3 a y (by omega) (by omega) (by omega)
          · have t := (h.2.2.1 x u v).2
            unfold TmS at t ⊢
            rw [fo 3 x (by omega), fo 4 x (by omega)]
            simp (disch := omega) only [mset_n, nf3]
            exact t
          · have t := h.2.2.2.1 x u v
            simp (disch := omega) only [mset_n, nf3]
            exact t
          · rw [mset_n (by omega), mset_n (by omega), mset_n (by omega)]
            exact nf3 a y (by omega) (by omega) (by omega)
          · rw [mset_n (by omega), mset_n (by omega), mset_n (by omega), y4 891 y (by omega) (by omega), nf2 891 y (by omega) (by omega)]
          · unfold TmR fsN
            rw [hr]
            simp (disch := omega) only [mset_n, mset_s]
            rw [y4 882 r (by omega) (by omega), p82, y4 883 r (by omega) (by omega), p83, y4 884 r (by omega) (by omega), p84, y4 886 r (by omega) (by omega), p86, y2]
            refine ⟨rfl, fun _ => ⟨rfl, rfl, rfl, rfl, trivial, trivial, trivial, fun i u => ?_⟩⟩
            exact y3 i u
          · have t := (h.2.2.2.2.2.1 g u).2.2.2.2.2.1
            rw [mset_n (show ¬ (898 = 890 ∧ g + 1 = r) by omega), mset_n (show ¬ (898 = 887 ∧ g + 1 = r) by omega), mset_n (show ¬ (898 = 888 ∧ g + 1 = r) by omega), nf3 898 _ (by omega) (by omega) (by omega), mset_n (show ¬ (1 = 3 ∧ g = m) by omega), re_b (by omega)]
            exact t
          · rw [mset_n (by omega), mset_n (by omega), mset_n (by omega), y4 901 k (by omega) (by omega)]
            exact p901 k u
        have c7' : ∀ g, g < fsN m p.1 0 1 → coO (fsN m p.1) g ≤ 7 := by
          intro g u
          rw [fo 0 1 (by omega)] at u
          have := co_le (TfV_W.mp hv).1 u
          have ec : coO (fsN m p.1) g = coO p.1 g := by
            unfold coO
            rw [fo 10 g (by omega), fo 11 g (by omega), fo 12 g (by omega), fo 2 _ (by omega)]
          rw [ec]
          exact this
        refine wq_some ⟨e0, ?_, ?_, ⟨fun _ => hE.1, fun z => absurd rfl z⟩, fun a y u => ?_, fun a y u => ?_⟩
        all_goals (try dsimp only)
        · unfold fsP
          rw [hr]
          dsimp only
          have g0 : fsN m p.1 0 1 = p.1 0 1 := fo 0 1 (by omega)
          refine TfM_mk (co := 0) c7' TV (fun a y u1 u2 u3 => ?_) (fun a y u => ?_) ?_ ?_ ?_ ?_ ?_ ?_ ?_ ?_ (fun k u => by omega)
          · rw [g0] at u1
            by_cases c1 : a = 890 ∧ y = r
            · rw [c1.1, c1.2, mset_s]; exact w5
            · rw [mset_n c1]
              by_cases c2 : a = 887 ∧ y = r
              · rw [c2.1, c2.2, mset_s]; exact w4
              · rw [mset_n c2]
                by_cases c3 : a = 888 ∧ y = r
                · rw [c3.1, c3.2, mset_s]
                · rw [mset_n c3]
                  exact w1 a y u1 u2 (by omega)
          · by_cases c1 : a = 889 ∧ y = r
            · rw [c1.1, c1.2, mset_s]; exact w3
            · rw [mset_n c1]
              exact w2 a y u c1
          · rw [g0]; exact w6
          · rw [g0]; exact w7
          · rw [g0]; exact w8
          · rw [g0, if_neg (by omega)]; exact w9
          · rw [g0]; exact w10
          · rw [if_neg (by omega), if_neg (by omega), if_pos rfl]
          · rw [g0]; exact w11
          · rw [g0]; exact w12
        · obtain ⟨x1, x2, x3, x4⟩ := hE
          refine ⟨x2, x3, ?_⟩
          unfold fsP
          rw [hr]
          dsimp only
          rw [mkB_r (by omega), mset_n (by omega)]
          exact x4
        · rw [w1 a y (by omega) (by omega) (by omega)]
          exact nf3 a y (by omega) (by omega) (by omega)
        · exact w2 a y (by omega) (by omega)
    by_cases a1 : p.1 5 r = 1
    · have eb : reB r p = mset p.2 2 0 true := by unfold reB; rw [if_pos a1]
      rw [if_pos (show sI (p.1 5 r) = 1 by rw [a1]; rfl), show (6 : Int32) = sI 6 from rfl, m_endReceiver17 hr4 (by omega) (h.2.2.2.2.2.2 6 (by omega)), mb2_s]
      refine fin _ (eU e 6) (fun a y u v => by rw [mset_n (by omega), mset_n u]) (fun k u => ?_) (eR_1 (by omega) (by rw [eb, mset_s]))
      by_cases hq : k = 6
      · rw [hq, mset_s]
        rfl
      · rw [mset_j hq, mset_n (by omega), h.2.2.2.2.2.2 k u]
        unfold eU
        rw [if_neg hq]
    · have eb : reB r p = p.2 := by unfold reB; rw [if_neg a1]
      rw [if_neg (show ¬ sI (p.1 5 r) = 1 by rw [sI_eql (by omega) (by decide)]; exact a1)]
      refine fin M e (fun _ _ _ _ => rfl) h.2.2.2.2.2.2 (eR_0 (by rw [eb]))
