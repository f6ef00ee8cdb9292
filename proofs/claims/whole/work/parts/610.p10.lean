/-! the reference: a frame is received; what may be read -/
theorem T_rv {f : Nat} {p : PB} (hv : TfV p.1 p.2) (hf : f < p.1 0 1) (h : TfT p.1 (p.1 0 3)) : TfT (rvQ f p).1.1 (p.1 0 3) := by
  have hr4 : p.1 11 f % 4 < 4 := Nat.mod_lt _ (by omega)
  have gen : ∀ n' : Nat → Nat → Nat, (∀ j, n' 3 j = 1 → p.1 3 j = 1 ∧ n' 4 j = p.1 4 j) → n' 0 0 = p.1 0 0 → (∀ r, r < 4 → n' 5 r = 1 → (p.1 5 r = 1 ∧ n' 9 r = p.1 9 r) ∨ n' 9 r = p.1 0 3) → TfT n' (p.1 0 3) := by
    intro n' c1 c2 c3
    refine ⟨fun m u1 u2 z => ?_, fun r u z => ?_⟩
    · rw [c2] at u2
      have := c1 m z
      rw [this.2]
      exact h.1 m u1 u2 this.1
    · rcases c3 r u z with ⟨d1, d2⟩ | d
      · rw [d2]; exact h.2 r u d1
      · rw [d]; omega
  unfold rvQ nxQ
  by_cases k3 : p.1 10 f = 3
  · rw [if_pos k3]
    dsimp only
    split
    · refine gen _ (fun j z => ?_) (by dsimp only; rw [mset_n (by omega)]) (fun r u z => ?_)
      · dsimp only at z ⊢
        rw [mset_n (by omega)]
        by_cases hq : j = p.1 11 f
        · rw [hq, mset_s] at z; omega
        · rw [mset_j hq] at z; exact ⟨z, rfl⟩
      · dsimp only at z ⊢
        rw [mset_n (by omega)] at z
        rw [mset_n (by omega)]
        exact Or.inl ⟨z, rfl⟩
    · exact h
  · rw [if_neg k3]
    generalize p.1 11 f % 4 = r0 at *
    by_cases k2 : p.1 10 f = 2
    · rw [if_pos k2]
      split
      · split
        · split
          · refine gen _ (fun j z => ?_) ?_ (fun r u z => ?_)
            · dsimp only at z ⊢
              unfold gtN at z ⊢
              rw [mset_n (by omega), mset_n (by omega), mset_n (by omega)] at z
              rw [mset_n (by omega), mset_n (by omega), mset_n (by omega)]
              exact ⟨z, rfl⟩
            · dsimp only
              unfold gtN
              rw [mset_n (by omega), mset_n (by omega), mset_n (by omega)]
            · dsimp only at z ⊢
              unfold gtN at z ⊢
              rw [mset_n (by omega), mset_n (by omega), mset_n (by omega)] at z
              by_cases hq : r = r0
              · rw [hq, mset_s]; exact Or.inr rfl
              · rw [mset_j hq, mset_n (by omega), mset_n (by omega)]
                exact Or.inl ⟨z, rfl⟩
          · refine gen _ (fun j z => ?_) (by dsimp only; rw [mset_n (by omega)]) (fun r u z => ?_)
            · dsimp only at z ⊢
              rw [mset_n (by omega)] at z
              rw [mset_n (by omega)]
              exact ⟨z, rfl⟩
            · dsimp only at z ⊢
              rw [mset_n (show ¬ (9 = 5 ∧ r = r0) by omega)]
              by_cases hq : r = r0
              · rw [hq, mset_s] at z; omega
              · rw [mset_j hq] at z
                exact Or.inl ⟨z, rfl⟩
        · refine gen _ (fun j z => ?_) (by dsimp only; rw [mset_n (by omega)]) (fun r u z => ?_)
          · dsimp only at z ⊢
            rw [mset_n (by omega)] at z
            rw [mset_n (by omega)]
            exact ⟨z, rfl⟩
          · dsimp only at z ⊢
            rw [mset_n (show ¬ (9 = 5 ∧ r = r0) by omega)]
            by_cases hq : r = r0
            · rw [hq, mset_s] at z; omega
            · rw [mset_j hq] at z
              exact Or.inl ⟨z, rfl⟩
      · exact h
    · rw [if_neg k2]
      split
      · refine gen _ (fun j z => ?_) (by dsimp only; rw [mset_n (by omega)]) (fun r u z => ?_)
        · dsimp only at z ⊢
          rw [mset_n (by omega)] at z
          rw [mset_n (by omega)]
          exact ⟨z, rfl⟩
        · dsimp only at z ⊢
          rw [mset_n (show ¬ (9 = 5 ∧ r = r0) by omega)]
          by_cases hq : r = r0
          · rw [hq, mset_s] at z; omega
          · rw [mset_j hq] at z
            exact Or.inl ⟨z, rfl⟩
      · dsimp only
        unfold fsP fsN
        dsimp only
        refine gen _ (fun j z => ?_) ?_ (fun r u z => ?_)
        · rw [mk_r (by omega) (by omega)] at z ⊢
          rw [mset_n (by omega), mset_n (by omega), mset_n (by omega), mset_n (by omega), mset_n (by omega)] at z
          rw [mset_n (by omega), mset_n (by omega), mset_n (by omega), mset_n (by omega), mset_n (by omega)]
          exact ⟨z, rfl⟩
        · rw [mk_r (by omega) (by omega), mset_n (by omega), mset_n (by omega), mset_n (by omega), mset_n (by omega), mset_n (by omega)]
        · rw [mk_r (by omega) (by omega)] at z ⊢
          by_cases hq : r = p.1 11 f % 4
          · rw [hq, mset_s]; exact Or.inr rfl
          · rw [mset_n (by omega), mset_n (by omega), mset_n (by omega), mset_n (by omega), mset_j hq] at z
            rw [mset_j hq, mset_n (by omega), mset_n (by omega), mset_n (by omega), mset_n (by omega)]
            exact Or.inl ⟨z, rfl⟩
theorem m_receive17 {fu f : Nat} {M : mwM} {L : mwL} {p : PB} {o : Nat → Nat → Nat} {e : Nat → Nat} (hfu : 200 ≤ fu) (hv : TfV p.1 p.2) (h : TfM M L (p.1 0 3) p.1 p.2 o e) (hf : f < p.1 0 1) (hg : p.2 1 f = false) : wq (DX17_receive fu (sI (f + 1)) M L) (fun z => ∃ e', TfM z.2.1 z.2.2 (p.1 0 3) (rvQ f (p.1, mset p.2 1 f true)).1.1 (rvQ f (p.1, mset p.2 1 f true)).1.2 o e' ∧ eQ 1 e p.2 e' (rvQ f (p.1, mset p.2 1 f true)).1.2 ∧ rvM z.2.1 p.1 o (rvQ f (p.1, mset p.2 1 f true)).2 e e' ∧ rFr M z.2.1 ∧ rFl L z.2.2) := by
  have hF := Tf_F hv
  have tf := h.2.2.2.2.2.1 f hf
  have hvi := hv.2.2.2 f hf
  have vg := V_gone (f := f) hv
  have hvr : TfV (rvQ f (p.1, mset p.2 1 f true)).1.1 (rvQ f (p.1, mset p.2 1 f true)).1.2 := V_rv (p := (p.1, mset p.2 1 f true)) vg (by dsimp only; omega) (fun k1 => ⟨by dsimp only; rw [mset_n (by omega)]; exact (hvi.2.2.2.2.2.2.2.2 k1).1 hg, mset_s⟩)
  have hF1 : p.1 0 1 < 1600 ∨ p.1 10 f ≠ 1 := by
    by_cases k1 : p.1 10 f = 1
    · left
      have := Tf_F hvr
      have e : (rvQ f (p.1, mset p.2 1 f true)).1.1 0 1 = p.1 0 1 + 1 := by
        unfold rvQ
        dsimp only
        rw [if_neg (by omega), if_neg (by omega), if_neg (by omega)]
        unfold fsP fsN
        dsimp only
        rw [mk_F]
        simp (disch := omega) only [mset_n]
      rw [e] at this
      omega
    · exact Or.inr k1
  have T : TfM (mset (mset M 869 0 0) 898 (f + 1) 1) L (p.1 0 3) p.1 (mset p.2 1 f true) o e := by
    refine TfM_ch h (fun a y u => by rw [mset_n (by omega), mset_n (by omega)]) h.1.2.1 (fun _ _ _ _ => rfl) (fun x u v => ?_) (fun x u v => ?_) (fun r u => ?_) (fun g u => ?_) (fun k u => ?_)
    · have t := (h.2.2.1 x u v).2
      unfold TmS at t ⊢
      simp (disch := omega) only [mset_n]
      exact t
    · have t := h.2.2.2.1 x u v
      simp (disch := omega) only [mset_n]
      exact t
    · have t := h.2.2.2.2.1 r u
      unfold TmR at t ⊢
      simp (disch := omega) only [mset_n]
      exact t
    · by_cases hq : g = f
      · rw [hq, mset_s, mset_s]; rfl
      · rw [mset_j (by omega), mset_j hq, mset_n (by omega)]
        exact (h.2.2.2.2.2.1 g u).2.2.2.2.2.1
    · simp (disch := omega) only [mset_n]
      exact h.2.2.2.2.2.2 k u
  unfold DX17_receive fX17_receive_b62
  simp only [mlet]
  rw [if_neg (by rw [sI_ltl (by omega) (by decide)]; omega), mset_n (show ¬ (869 = 869 ∧ 26 = 0) by omega), h.1.2.2.2.1, if_pos (by rw [sI_le (by omega) (by omega)]; omega), mck_s (by omega) (by omega), sI_nn (by omega), mset_n (show ¬ (898 = 869 ∧ f + 1 = 0) by omega), tf.2.2.2.2.2.1, hg, if_pos (show bI false = 0 from rfl), mck_s (by omega) (by omega), mck_s (by omega) (by omega), show vp_nar .boolean 1 = 1 by decide]
  have e892 : mset (mset M 869 0 0) 898 (f + 1) 1 892 (f + 1) = sI (p.1 10 f) := by rw [mset_n (by omega), mset_n (by omega), tf.1]
  rw [e892]
  by_cases k3 : p.1 10 f = 3
  · rw [if_pos (show sI (p.1 10 f) = 3 by rw [k3]; rfl)]
    refine wq_b3 (m_takeFlow17 (p := (p.1, mset p.2 1 f true)) vg T hf k3) ?_
    rintro r1 M1 L1 ⟨q1, q2, q3, q4, q5⟩
    dsimp only at q1 q2 q3 q4 q5
    refine wq_some ⟨e, q1, ⟨Nat.le_refl _, by omega, ?_⟩, ⟨fun _ => rfl, fun z => absurd q2 z⟩, fun a y u => ?_, q5⟩
    · rw [q3, decide_eq_false (by omega), Bool.or_false, mset_n (by omega)]
    · dsimp only
      rw [q4 a y u, mset_n (by omega), mset_n (by omega)]
  · rw [if_neg (show ¬ sI (p.1 10 f) = 3 by rw [sI_eql (by omega) (by decide)]; exact k3)]
    refine wq_b3 (m_take17 (p := (p.1, mset p.2 1 f true)) hfu vg hF1 T hf k3) ?_
    rintro r1 M1 L1 ⟨e1, q1, q2, q3, q4, q5⟩
    dsimp only at q1 q2 q3 q4 q5
    refine wq_some ⟨e1, q1, ?_, q3, fun a y u => ?_, q5⟩
    · obtain ⟨x1, x2, x3⟩ := q2
      rw [mset_n (by omega)] at x3
      exact ⟨x1, x2, x3⟩
    · dsimp only
      rw [q4 a y u, mset_n (by omega), mset_n (by omega)]
/-! reading -/
theorem m_frameA {fu f w : Nat} {M : mwM} {L : mwL} {τ : Nat} {n : Nat → Nat → Nat} {b : Nat → Nat → Bool} {o : Nat → Nat → Nat} {e : Nat → Nat} (hv : TfV n b) (h : TfM M L τ n b o e) (hf : f < n 0 1) (hw : w ≤ 5) (hw4 : w ≠ 4) : DX17_frame fu (sI (f + 1)) (sI w) M L = some (if w = 0 then sI (n 10 f) else if w = 1 then sI (n 11 f) else if w = 2 then sI (nuO n f) else if w = 3 then sI (coO n f) else sI 0, mset M 869 0 0, L) := by
  have hF := Tf_F hv
  have tf := h.2.2.2.2.2.1 f hf
  unfold DX17_frame fX17_frame_b18 fX17_frame_b91 fX17_frame_b167
  simp only [mlet]
  rw [if_neg (show ¬ sI (f + 1) = 0 by rw [sI_eql (by omega) (by decide)]; omega), if_neg (show ¬ sI (f + 1) < 1 by rw [sI_ltl (by omega) (by decide)]; omega), mset_n (show ¬ (869 = 869 ∧ 26 = 0) by omega), h.1.2.2.2.1, if_pos (by rw [sI_le (by omega) (by omega)]; omega), if_pos (show sI w < 8 by rw [sI_ltl (by omega) (by decide)]; omega)]
  simp (disch := omega) only [mck_s, sI_nn, mset_n]
  rw [tf.1, tf.2.1, tf.2.2.1, tf.2.2.2.1, tf.2.2.2.2.1]
  rcases (show w = 0 ∨ w = 1 ∨ w = 2 ∨ w = 3 ∨ w = 5 by omega) with rfl | rfl | rfl | rfl | rfl
  · rw [if_pos (show sI 0 = 0 from rfl), if_pos rfl]
  · rw [if_neg (show ¬ sI 1 = 0 by decide), if_pos (show sI 1 = 1 from rfl)]
    rfl
  · rw [if_neg (show ¬ sI 2 = 0 by decide), if_neg (show ¬ sI 2 = 1 by decide), if_pos (show sI 2 = 2 from rfl)]
    rfl
  · rw [if_neg (show ¬ sI 3 = 0 by decide), if_neg (show ¬ sI 3 = 1 by decide), if_neg (show ¬ sI 3 = 2 by decide), if_pos (show sI 3 = 3 from rfl)]
    rfl
  · rw [if_neg (show ¬ sI 5 = 0 by decide), if_neg (show ¬ sI 5 = 1 by decide), if_neg (show ¬ sI 5 = 2 by decide), if_neg (show ¬ sI 5 = 3 by decide), if_neg (show ¬ sI 5 = 4 by decide), if_pos (show sI 5 = 5 from rfl)]
    rfl
theorem m_frame0 {fu : Nat} {M : mwM} {L : mwL} {τ : Nat} {n : Nat → Nat → Nat} {b : Nat → Nat → Bool} {o : Nat → Nat → Nat} {e : Nat → Nat} (h : TfM M L τ n b o e) : DX17_frame fu 0 0 M L = some (sI (n 0 1), mset M 869 0 0, L) := by
  unfold DX17_frame
  simp only [mlet]
  rw [if_pos trivial, if_pos trivial, mset_n (show ¬ (869 = 869 ∧ 26 = 0) by omega), h.1.2.2.2.1]
theorem m_frameO {fu f i : Nat} {M : mwM} {L : mwL} {τ : Nat} {n : Nat → Nat → Nat} {b : Nat → Nat → Bool} {o : Nat → Nat → Nat} {e : Nat → Nat} (hv : TfV n b) (h : TfM M L τ n b o e) (hf : f < n 0 1) (hi : i < 7) (hk : n 10 f ≠ 3) : DX17_frame fu (sI (f + 1)) (sI (8 + i)) M L = some (sI (wrO n o f (i + 1)), mset M 869 0 0, L) := by
  have hF := Tf_F hv
  have tf := h.2.2.2.2.2.1 f hf
  have hg := hv.2.2.2 f hf
  have hc7 := co_le (TfV_W.mp hv).1 hf
  have to := (h.2.2.1 _ hg.2.1 hg.2.2.1).1
  have wi : wrO n o f (i + 1) = if i < coO n f then o (n 11 f) (frO (n 10 f) (n 12 f) + i) else 0 := by
    show (if i < moO (n 10 f) ∧ frO (n 10 f) (n 12 f) + i < n 2 (n 11 f) then o (n 11 f) (frO (n 10 f) (n 12 f) + i) else 0) = _
    have iff : (i < moO (n 10 f) ∧ frO (n 10 f) (n 12 f) + i < n 2 (n 11 f)) ↔ i < coO n f := by
      unfold moO coO frO
      rcases (show n 10 f = 0 ∨ n 10 f = 1 ∨ n 10 f = 2 by omega) with k | k | k
      · have := hg.2.2.2.2.1 k
        rw [k]
        simp
        omega
      · have := hg.2.2.2.2.2.1 (by omega)
        rw [k]
        simp
        omega
      · have := hg.2.2.2.2.2.2.1 k
        rw [k]
        simp
        split <;> omega
    by_cases hc : i < coO n f
    · rw [if_pos (iff.mpr hc), if_pos hc]
    · rw [if_neg (fun z => hc (iff.mp z)), if_neg hc]
  unfold DX17_frame fX17_frame_b18 fX17_frame_b89 fX17_frame_b90
  simp only [mlet]
  rw [if_neg (show ¬ sI (f + 1) = 0 by rw [sI_eql (by omega) (by decide)]; omega), if_neg (show ¬ sI (f + 1) < 1 by rw [sI_ltl (by omega) (by decide)]; omega), mset_n (show ¬ (869 = 869 ∧ 26 = 0) by omega), h.1.2.2.2.1, if_pos (by rw [sI_le (by omega) (by omega)]; omega), if_neg (show ¬ sI (8 + i) < 8 by rw [sI_ltl (by omega) (by decide)]; omega), if_neg (show ¬ 15 ≤ sI (8 + i) by rw [sI_lle (by decide) (by omega)]; omega)]
  rw [show (7 : Int32) * sI (f + 1) = sI (7 * (f + 1)) from sI_lml, sI_add, show sI (7 * (f + 1) + (8 + i)) - 8 = sI (7 * (f + 1) + (8 + i) - 8) from sI_sub (b := 8) (by omega), show sI (8 + i) - 8 = sI (8 + i - 8) from sI_sub (b := 8) (by omega), show 8 + i - 8 = i by omega, show 7 * (f + 1) + (8 + i) - 8 = 7 * (f + 1) + i by omega]
  simp (disch := omega) only [mck_s, sI_nn, mset_n]
  rw [tf.1, tf.2.2.2.1, if_neg (show ¬ 3 ≤ sI (n 10 f) by rw [sI_lle (by decide) (by omega)]; omega)]
  rw [wi]
  by_cases hc : i < coO n f
  · have hlt : frO (n 10 f) (n 12 f) + i < n 2 (n 11 f) := by
      unfold coO at hc
      unfold frO
      rcases (show n 10 f = 0 ∨ n 10 f = 1 ∨ n 10 f = 2 by omega) with k | k | k
      · rw [k] at hc ⊢
        simp at hc ⊢
        omega
      · have := hg.2.2.2.2.2.1 (by omega)
        rw [k] at hc ⊢
        simp at hc ⊢
        omega
      · rw [k] at hc ⊢
        simp [frO] at hc ⊢
        split at hc <;> omega
    rw [if_neg (by rw [sI_le (by omega) (by omega)]; omega), if_pos hc, tf.2.2.2.2.2.2 i hc, sB_a _ (to _ hlt).2]
  · rw [if_pos (by rw [sI_le (by omega) (by omega)]; omega), if_neg hc]
    rfl
theorem m_ended17 {fu k : Nat} {M : mwM} {L : mwL} {τ : Nat} {n : Nat → Nat → Nat} {b : Nat → Nat → Bool} {o : Nat → Nat → Nat} {e : Nat → Nat} (h : TfM M L τ n b o e) (hk : k < 8) : DX17_ended fu (sI k) M L = some (sI (e k), mset M 869 0 0, L) := by
  unfold DX17_ended fX17_ended_b26
  simp only [mlet]
  rw [if_neg (by rw [sI_ltl (by omega) (by decide)]; omega), if_pos (by rw [sI_lel (by omega) (by decide)]; omega), mck_s (by omega) (by omega), sI_nn (by omega), mset_n (by omega), h.2.2.2.2.2.2 k hk]
theorem m_got17 {fu j sz x : Nat} {M : mwM} {L : mwL} (hj : j < sz) (hs : sz ≤ 100) (h40 : M 869 40 = sI sz) (h900 : M 900 j = sB x) (hx : x < 256) : DX17_got fu (sI j) M L = some (sB x, mset M 869 0 0, L) := by
  unfold DX17_got fX17_got_b18 fX17_got_b38
  rw [if_neg (by rw [sI_ltl (by omega) (by decide)]; omega), h40, if_pos (by rw [sI_lt (by omega) (by omega)]; exact hj)]
  simp only [mlet]
  rw [mset_s, if_pos (by decide), mck_s (by omega) (by omega), sI_nn (by omega), mset_n (by omega), h900]
  unfold mbb
  rw [if_pos (sB_b x hx)]
theorem m_lose17 {fu f : Nat} {M : mwM} {L : mwL} {p : PB} {τ : Nat} {o : Nat → Nat → Nat} {e : Nat → Nat} (hv : TfV p.1 p.2) (h : TfM M L τ p.1 p.2 o e) (hf : f < p.1 0 1) (hg : p.2 1 f = false) : wq (DX17_lose fu (sI (f + 1)) M L) (fun z => TfM z.2.1 z.2.2 τ p.1 (mset p.2 1 f true) o e ∧ z.2.2 = L ∧ ∀ a y, ¬ (a = 869 ∨ a = 898) → z.2.1 a y = M a y) := by
  have hF := Tf_F hv
  have tf := h.2.2.2.2.2.1 f hf
  unfold DX17_lose fX17_lose_b31 fX17_lose_b32 fX17_lose_b44
  simp only [mlet]
  rw [if_neg (by rw [sI_ltl (by omega) (by decide)]; omega), mset_n (show ¬ (869 = 869 ∧ 26 = 0) by omega), h.1.2.2.2.1, if_neg (by rw [sI_lt (by omega) (by omega)]; omega), mck_s (by omega) (by omega), sI_nn (by omega), mset_n (show ¬ (898 = 869 ∧ f + 1 = 0) by omega), tf.2.2.2.2.2.1, hg, if_pos (show bI false = 0 from rfl), if_neg (show ¬ (1 : Int32) = 0 by decide), mck_s (by omega) (by omega), show vp_nar .boolean 1 = 1 by decide]
  unfold mzz
  rw [if_pos (by decide)]
  refine wq_some ⟨?_, rfl, fun a y u => by dsimp only; rw [mset_n (by omega), mset_n (by omega)]⟩
  dsimp only
  refine TfM_ch h (fun a y u => by rw [mset_n (by omega), mset_n (by omega)]) h.1.2.1 (fun _ _ _ _ => rfl) (fun x u v => ?_) (fun x u v => ?_) (fun r u => ?_) (fun g u => ?_) (fun k u => ?_)
  · have t := (h.2.2.1 x u v).2
    unfold TmS at t ⊢
    simp (disch := omega) only [mset_n]
    exact t
  · have t := h.2.2.2.1 x u v
    simp (disch := omega) only [mset_n]
    exact t
  · have t := h.2.2.2.2.1 r u
    unfold TmR at t ⊢
    simp (disch := omega) only [mset_n]
    exact t
  · by_cases hq : g = f
    · rw [hq, mset_s, mset_s]; rfl
    · rw [mset_j (by omega), mset_j hq, mset_n (by omega)]
      exact (h.2.2.2.2.2.1 g u).2.2.2.2.2.1
  · simp (disch := omega) only [mset_n]
    exact h.2.2.2.2.2.2 k u
/-! what is on its way, as the reference keeps it -/
def obL (n : Nat → Nat → Nat) (b : Nat → Nat → Bool) : List Nat := (List.range (n 0 2)).filter (fun f => !b 1 f)
def idO (n : Nat → Nat → Nat) (b : Nat → Nat → Bool) (f : Nat) : Nat := 1536 + 2 * n 1 (n 11 f) + (if toT n b f = true then 1 else 0)
def TfN (M : mwM) (n : Nat → Nat → Nat) (b : Nat → Nat → Bool) (e : Nat → Nat) : Prop :=
  M 732 88 = sI (n 0 0) ∧ (∀ m, 1 ≤ m → m ≤ n 0 0 → M 927 m = sI (n 1 m) ∧ M 928 m = bI (b 0 m)) ∧ M 732 95 = sI (e 0) ∧ (∃ en, M 732 96 = sI en ∧ en ≤ eS e ∧ b 2 0 = decide (en < eS e)) ∧ M 732 94 = sI (n 0 2) ∧ M 732 91 = sI (obL n b).length ∧ (∀ k (h : k < (obL n b).length), M 929 k = sI ((obL n b)[k] + 1) ∧ M 930 k = sI (idO n b (obL n b)[k])) ∧ e 0 + eS e + 2 * (obL n b).length ≤ 208 * n 0 3 + 2 * n 0 2
theorem fil_er : ∀ (l : List Nat) (k : Nat) (hk : k < l.length), l.Nodup → l.filter (fun g => !decide (g = l[k])) = l.eraseIdx k := by
  intro l
  induction l with
  | nil => intro k hk; exact absurd hk (by simp)
  | cons x t ih =>
    intro k hk hn
    rw [List.nodup_cons] at hn
    cases k with
    | zero =>
      rw [List.filter_cons]
      simp only [List.getElem_cons_zero, decide_true, Bool.not_true, List.eraseIdx_cons_zero]
      rw [if_neg (by decide)]
      refine List.filter_eq_self.mpr (fun a ha => ?_)
      have : a ≠ x := fun z => hn.1 (z ▸ ha)
      simp [this]
    | succ k =>
      have hk' : k < t.length := by simpa using hk
      rw [List.filter_cons]
      simp only [List.getElem_cons_succ, List.eraseIdx_cons_succ]
      have : x ≠ t[k] := fun z => hn.1 (z ▸ List.getElem_mem hk')
      rw [if_pos (by simp [this]), ih k hk' hn.2]
theorem ob_pw {n : Nat → Nat → Nat} {b : Nat → Nat → Bool} : (obL n b).Pairwise (· < ·) := List.Pairwise.filter _ List.pairwise_lt_range
theorem ob_nd {n : Nat → Nat → Nat} {b : Nat → Nat → Bool} : (obL n b).Nodup := List.Pairwise.imp (fun h => Nat.ne_of_lt h) ob_pw
theorem ob_mem {n : Nat → Nat → Nat} {b : Nat → Nat → Bool} {f : Nat} : f ∈ obL n b ↔ f < n 0 2 ∧ b 1 f = false := by
  unfold obL
  rw [List.mem_filter, List.mem_range]
  simp
theorem ob_lt {n : Nat → Nat → Nat} {b : Nat → Nat → Bool} {j k : Nat} (hj : j < (obL n b).length) (hk : k < (obL n b).length) (h : (obL n b)[j] < (obL n b)[k]) : j < k := by
  by_cases hq : j < k
  · exact hq
  · exfalso
    by_cases he : k = j
    · subst he
      omega
    · have := List.pairwise_iff_getElem.mp (ob_pw (n := n) (b := b)) k j hk hj (by omega)
      omega
theorem ob_len {n : Nat → Nat → Nat} {b : Nat → Nat → Bool} : (obL n b).length ≤ n 0 2 := by
  unfold obL
  have := List.length_filter_le (fun f => !b 1 f) (List.range (n 0 2))
  rw [List.length_range] at this
  exact this
theorem ob_er {n n' : Nat → Nat → Nat} {b b' : Nat → Nat → Bool} {k : Nat} (hk : k < (obL n b).length) (h0 : n' 0 2 = n 0 2) (hb : ∀ g, g < n 0 2 → b' 1 g = (b 1 g || decide (g = (obL n b)[k]))) : obL n' b' = (obL n b).eraseIdx k := by
  rw [← fil_er _ k hk ob_nd]
  generalize (obL n b)[k] = x at *
  unfold obL
  rw [List.filter_filter, h0]
  refine List.filter_congr (fun g hg => ?_)
  rw [hb g (List.mem_range.mp hg)]
  cases b 1 g <;> simp
theorem id_eq {n : Nat → Nat → Nat} {b : Nat → Nat → Bool} {f c : Nat} {tt : Bool} : idO n b f = 1536 + 2 * c + (if tt = true then 1 else 0) ↔ n 1 (n 11 f) = c ∧ toT n b f = tt := by
  unfold idO
  cases toT n b f <;> cases tt <;> simp <;> omega
/-! what a frame that reaches its aim leaves alone -/
theorem rv_n {f i j : Nat} {p : PB} (h : (i = 0 ∧ j ≠ 1) ∨ i = 1 ∨ i = 2 ∨ i = 4) : (rvQ f p).1.1 i j = p.1 i j := by
  unfold rvQ nxQ
  split
  · dsimp only
    split
    · exact mset_n (by omega)
    · rfl
  · split
    · split
      · split
        · split
          · dsimp only
            unfold gtN
            rw [mset_n (by omega), mset_n (by omega), mset_n (by omega)]
          · exact mset_n (by omega)
        · exact mset_n (by omega)
      · rfl
    · split
      · exact mset_n (by omega)
      · dsimp only
        unfold fsP fsN
        dsimp only
        rw [mk_r (by omega) (by omega), mset_n (by omega), mset_n (by omega), mset_n (by omega), mset_n (by omega), mset_n (by omega)]
theorem fs_F {m : Nat} {n : Nat → Nat → Nat} : fsN m n 0 1 = n 0 1 := by
  unfold fsN
  rw [mset_n (by omega), mset_n (by omega), mset_n (by omega), mset_n (by omega), mset_n (by omega)]
theorem rv_f {f i g : Nat} {p : PB} (h : 10 ≤ i ∧ i ≤ 12) (hg : g < p.1 0 1) : (rvQ f p).1.1 i g = p.1 i g := by
  unfold rvQ nxQ
  split
  · dsimp only
    split
    · exact mset_n (by omega)
    · rfl
  · split
    · split
      · split
        · split
          · dsimp only
            unfold gtN
            rw [mset_n (by omega), mset_n (by omega), mset_n (by omega)]
          · exact mset_n (by omega)
        · exact mset_n (by omega)
      · rfl
    · split
      · exact mset_n (by omega)
      · dsimp only
        unfold fsP
        dsimp only
        rw [mk_o (by omega) (by rw [fs_F]; omega)]
        unfold fsN
        rw [mset_n (by omega), mset_n (by omega), mset_n (by omega), mset_n (by omega), mset_n (by omega)]
theorem rv_b {f i g : Nat} {p : PB} (h : i = 0 ∨ (i = 1 ∧ g < p.1 0 1)) : (rvQ f p).1.2 i g = p.2 i g := by
  unfold rvQ nxQ
  split
  · dsimp only
    split <;> rfl
  · split
    · split
      · split
        · split <;> rfl
        · exact mset_n (by omega)
      · rfl
    · split
      · exact re_b (by omega)
      · dsimp only
        unfold fsP
        dsimp only
        unfold mkB
        rw [mset_n (by rw [fs_F]; omega), mset_n (by omega), re_b (by omega)]
theorem rv_m {f : Nat} {p : PB} : (rvQ f p).2 = 0 ∨ (rvQ f p).2 = p.1 11 f := by
  unfold rvQ nxQ
  split
  · exact Or.inl rfl
  · split
    · split
      · split
        · split
          · exact Or.inl rfl
          · exact Or.inr rfl
        · exact Or.inl rfl
      · exact Or.inl rfl
    · split
      · exact Or.inr rfl
      · exact Or.inl rfl
/-! the reference: a frame arrives -/
theorem TfN_fr {M M' : mwM} {n : Nat → Nat → Nat} {b : Nat → Nat → Bool} {e : Nat → Nat} (h : TfN M n b e) (hA : ∀ a y, (a = 732 ∧ (y = 88 ∨ (91 ≤ y ∧ y ≤ 96))) ∨ (927 ≤ a ∧ a ≤ 930) → M' a y = M a y) : TfN M' n b e := by
  obtain ⟨k1, k2, k3, k4, k5, k6, k7, k8⟩ := h
  refine ⟨?_, fun m u1 u2 => ?_, ?_, ?_, ?_, ?_, fun k u => ?_, k8⟩
  · rw [hA 732 88 (by omega)]; exact k1
  · rw [hA 927 m (by omega), hA 928 m (by omega)]; exact k2 m u1 u2
  · rw [hA 732 95 (by omega)]; exact k3
  · rw [hA 732 96 (by omega)]; exact k4
  · rw [hA 732 94 (by omega)]; exact k5
  · rw [hA 732 91 (by omega)]; exact k6
  · rw [hA 929 k (by omega), hA 930 k (by omega)]; exact k7 k u
abbrev aFr (M M' : mwM) : Prop := ∀ a y, ¬ ((a = 732 ∧ (y = 91 ∨ y = 95)) ∨ a = 869 ∨ (872 ≤ a ∧ a ≤ 879) ∨ (882 ≤ a ∧ a ≤ 901) ∨ a = 929 ∨ a = 930 ∨ a = 932) → M' a y = M a y
theorem m_arrive {fu c : Nat} {tt : Bool} {M : mwM} {L : mwL} {p : PB} {o : Nat → Nat → Nat} {e : Nat → Nat} {Q : mwM × mwL → Prop} (hfu : 1700 ≤ fu) (hc : c < 1000) (hv : TfV p.1 p.2) (h : TfM M L (p.1 0 3) p.1 p.2 o e) (hN : TfN M p.1 p.2 e)
    (k0 : ∀ M' L' e', TfM M' L' (p.1 0 3) (rchP c tt p).1.1 (rchP c tt p).1.2 o e' → TfN M' (rchP c tt p).1.1 (rchP c tt p).1.2 e' → aFr M M' → rFl L L' → (rchP c tt p).2 = 0 → Q (M', L'))
    (k1 : ∀ M' L' e' m, TfM M' L' (p.1 0 3) (rchP c tt p).1.1 (rchP c tt p).1.2 o e' → TfN M' (rchP c tt p).1.1 (rchP c tt p).1.2 e' → aFr M M' → rFl L L' → m = (rchP c tt p).2 → 1 ≤ m → m ≤ p.1 0 0 → p.1 1 m = c → (∀ j, j < p.1 2 m → M' 932 j = sI (o m j)) → p.2 0 m = true → wq (mb2 (DX19_serve fu (sI c) (sI (p.1 2 m)) M' L') (fun M38 L39 => mck (sI m) 101 (mb2 (DX19_say fu (M38 927 m) 0 M38 L39) (fun M41 L42 => some (M41, L42))))) Q)
    (k2 : ∀ M' L' e' m, TfM M' L' (p.1 0 3) (rchP c tt p).1.1 (rchP c tt p).1.2 o e' → TfN M' (rchP c tt p).1.1 (rchP c tt p).1.2 e' → aFr M M' → rFl L L' → m = (rchP c tt p).2 → 1 ≤ m → m ≤ p.1 0 0 → p.1 1 m = c → (∀ j, j < p.1 2 m → M' 932 j = sI (o m j)) → p.2 0 m = false → wq (if M' 732 97 = sI c then fX19_arrive_h255 fu (sI (1536 + 2 * c + (if tt = true then 1 else 0))) fu (sI (p.1 2 m), 0, mset M' 732 98 (sI (p.1 2 m)), L') else some (M', L')) Q) : wq (DX19_arrive fu (sI (1536 + 2 * c + (if tt = true then 1 else 0))) M L) Q := by
  have hF := Tf_F hv
  have hH := hv.1.2.1
  have hK := hv.1.1
  have h3 := hv.1.2.2.1
  have hl := ob_len (n := p.1) (b := p.2)
  obtain ⟨n1, n2, n3, n4, n5, n6, n7, n8⟩ := hN
  generalize hid : 1536 + 2 * c + (if tt = true then 1 else 0) = id at *
  have idl : ∀ f, f < p.1 0 1 → idO p.1 p.2 f < 2000 := by
    intro f u
    have hg := hv.2.2.2 f u
    have h6 := (hv.2.1 _ hg.2.1 hg.2.2.1).1
    unfold idO
    split <;> omega
  unfold DX19_arrive
  refine wq_for (body := fun r z => fX19_arrive_i2 fu (sI id) r z.1 z.2.1 z.2.2) (fun i (_ : Unit) => (sI i, M, L)) (fun i _ => ∀ j (hj : j < (obL p.1 p.2).length), j < i → idO p.1 p.2 (obL p.1 p.2)[j] ≠ id) (obL p.1 p.2).length ?_ ?_ (obL p.1 p.2).length 0 () fu (by omega) (by omega) (fun j _ u => by omega)
  · intro k _ r hk hn ih
    show wq (fX19_arrive_i2 fu (sI id) r (sI k) M L) _
    obtain ⟨q929, q930⟩ := n7 k hk
    have hfm := ob_mem.mp (List.getElem_mem hk)
    generalize hfk : (obL p.1 p.2)[k] = f at *
    have hf1 : f < p.1 0 1 := by omega
    have hg := hv.2.2.2 f hf1
    have hid2 := idl f hf1
    have hbnd : id < 2000000000 ∨ ¬ idO p.1 p.2 f = id := by
      by_cases hq : idO p.1 p.2 f = id
      · left; omega
      · right; exact hq
    unfold fX19_arrive_i2
    rw [n6, if_neg (by rw [sI_le (by omega) (by omega)]; omega), mck_s (by omega) (by omega), sI_nn (by omega), q930]
    by_cases hq : idO p.1 p.2 f = id
    · rw [if_pos (by rw [hq])]
      -- it is the first one of its way
      have hw := id_eq.mp (hq.trans hid.symm)
      have ho : onW p.1 p.2 c tt f = true := by
        unfold onW
        rw [hfm.2, hw.1, hw.2]
        simp
      have hno : ∀ g, g < f → onW p.1 p.2 c tt g = false := by
        intro g hgf
        cases hgo : onW p.1 p.2 c tt g with
        | false => rfl
        | true =>
          exfalso
          unfold onW at hgo
          simp at hgo
          obtain ⟨o1, o2, o3⟩ := hgo
          have hgm : g ∈ obL p.1 p.2 := ob_mem.mpr ⟨by omega, o1⟩
          obtain ⟨j, hj, hjg⟩ := List.getElem_of_mem hgm
          have hjk : j < k := ob_lt hj hk (by rw [hjg, hfk]; exact hgf)
          refine hn j hj hjk ?_
          rw [hjg]
          exact (id_eq.mpr ⟨o2, o3⟩).trans hid
      have erc := rch_some hfm.1 ho hno
      rw [erc] at k0 k1 k2
      unfold fX19_arrive_b26
      rw [n6, if_neg (by rw [sI_eq (by omega) (by omega)]; omega), mck_s (by omega) (by omega), sI_nn (by omega), q929]
      simp only [mlet]
      rw [show sI (obL p.1 p.2).length - 1 = sI ((obL p.1 p.2).length - 1) from sI_sub (b := 1) (by omega)]
      -- the list closes up
      refine wq_for (body := fun r z => fX19_arrive_i55 fu (sI id) r z.1 z.2.1 z.2.2.1 z.2.2.2) (fun i (w : mwM) => (sI (f + 1), sI i, w, L)) (fun i w => k ≤ i ∧ w 732 91 = sI ((obL p.1 p.2).length - 1) ∧ (∀ j, j < i → j < (obL p.1 p.2).length - 1 → w 929 j = M 929 (if j < k then j else j + 1) ∧ w 930 j = M 930 (if j < k then j else j + 1)) ∧ (∀ j, i ≤ j → w 929 j = M 929 j ∧ w 930 j = M 930 j) ∧ ∀ a y, ¬ (a = 732 ∧ y = 91) → a ≠ 929 → a ≠ 930 → w a y = M a y) ((obL p.1 p.2).length - 1) ?_ ?_ ((obL p.1 p.2).length - 1 - k) k _ fu (by omega) (by omega) ⟨Nat.le_refl _, mset_s, fun j u1 u2 => ?_, fun j u => ?_, fun a y u1 u2 u3 => ?_⟩
      · intro i w r2 hi ⟨w0, w9, w1, w2, w3⟩ ih2
        show wq (fX19_arrive_i55 fu (sI id) r2 (sI (f + 1)) (sI i) w L) _
        unfold fX19_arrive_i55
        rw [w9, if_neg (by rw [sI_le (by omega) (by omega)]; omega), sI_1]
        simp only [mlet]
        rw [mck_s (by omega) (by omega), mck_s (by omega) (by omega), mck_s (by omega) (by omega), mck_s (by omega) (by omega), sI_nn (by omega), sI_nn (by omega)]
        refine ih2 _ ⟨by omega, ?_, fun j u1 u2 => ?_, fun j u => ?_, fun a y u1 u2 u3 => ?_⟩
        · rw [mset_n (by omega), mset_n (by omega)]; exact w9
        · by_cases hj : j = i
          · subst hj
            rw [if_neg (by omega), mset_n (by omega), mset_s, mset_s, mset_n (by omega)]
            exact w2 (j + 1) (by omega)
          · rw [mset_j hj, mset_n (by omega), mset_n (by omega), mset_j hj]
            exact w1 j (by omega) u2
        · rw [mset_n (by omega), mset_n (by omega), mset_n (by omega), mset_n (by omega)]
          exact w2 j (by omega)
        · rw [mset_n (by omega), mset_n (by omega)]
          exact w3 a y u1 u2 u3
      · intro w r2 ⟨w0, w9, w1, w2, w3⟩
        show wq (fX19_arrive_i55 fu (sI id) r2 (sI (f + 1)) (sI ((obL p.1 p.2).length - 1)) w L) _
        unfold fX19_arrive_i55
        rw [w9, if_pos (by rw [sI_le (by omega) (by omega)]; omega)]
        have hw2 : TfM w L (p.1 0 3) p.1 p.2 o e := TfM_fr h (fun a y u1 u2 _ _ => w3 a y (by omega) (by omega) (by omega)) (fun _ _ _ _ => rfl)
        refine wq_b3 (m_receive17 (by omega) hv hw2 hf1 hfm.2) ?_
        rintro r3 M1 L1 ⟨e1, T1, E1, R1, f1, f2⟩
        dsimp only at T1 E1 R1 f1 f2
        have hvr : TfV (rvQ f (p.1, mset p.2 1 f true)).1.1 (rvQ f (p.1, mset p.2 1 f true)).1.2 := V_rv (p := (p.1, mset p.2 1 f true)) (V_gone hv) (by dsimp only; omega) (fun z1 => ⟨by dsimp only; rw [mset_n (by omega)]; exact (hg.2.2.2.2.2.2.2.2 z1).1 hfm.2, mset_s⟩)
        have vn : ∀ i j, ((i = 0 ∧ j ≠ 1) ∨ i = 1 ∨ i = 2 ∨ i = 4) → (rvQ f (p.1, mset p.2 1 f true)).1.1 i j = p.1 i j := fun i j u => rv_n u
        have vf : ∀ i g, (10 ≤ i ∧ i ≤ 12) → g < p.1 0 1 → (rvQ f (p.1, mset p.2 1 f true)).1.1 i g = p.1 i g := fun i g u v => rv_f u v
        have vb0 : ∀ g, (rvQ f (p.1, mset p.2 1 f true)).1.2 0 g = p.2 0 g := fun g => by
          rw [rv_b (Or.inl rfl)]
          show mset p.2 1 f true 0 g = p.2 0 g
          rw [mset_n (by omega)]
        have vb1 : ∀ g, g < p.1 0 1 → (rvQ f (p.1, mset p.2 1 f true)).1.2 1 g = mset p.2 1 f true 1 g := fun g u => rv_b (Or.inr ⟨rfl, u⟩)
        have vm := @rv_m f (p.1, mset p.2 1 f true)
        have oe : obL (rvQ f (p.1, mset p.2 1 f true)).1.1 (rvQ f (p.1, mset p.2 1 f true)).1.2 = (obL p.1 p.2).eraseIdx k := by
          refine ob_er hk (vn 0 2 (by omega)) (fun g u => ?_)
          rw [vb1 g (by omega), hfk]
          by_cases hgq : g = f
          · rw [hgq, mset_s, decide_eq_true rfl, Bool.or_true]
          · rw [mset_j hgq, decide_eq_false hgq, Bool.or_false]
        have idq : ∀ g, g < p.1 0 1 → idO (rvQ f (p.1, mset p.2 1 f true)).1.1 (rvQ f (p.1, mset p.2 1 f true)).1.2 g = idO p.1 p.2 g := by
          intro g u
          unfold idO toT
          rw [vf 11 g (by omega) u, vf 10 g (by omega) u, vn 1 _ (by omega), vb0]
        -- what the reference keeps of it
        have mkN' : ∀ N : mwM, (∀ a y, ¬ (a = 732 ∧ y = 95) → (a = 732 ∧ (y = 88 ∨ (91 ≤ y ∧ y ≤ 96))) ∨ (927 ≤ a ∧ a ≤ 930) → N a y = M1 a y) → N 732 95 = sI (e1 0) → TfN N (rvQ f (p.1, mset p.2 1 f true)).1.1 (rvQ f (p.1, mset p.2 1 f true)).1.2 e1 := by
          intro N hN1 hN2
          have N1 : ∀ a y, ¬ (a = 732 ∧ y = 95) → (a = 732 ∧ (y = 88 ∨ (91 ≤ y ∧ y ≤ 96))) ∨ (927 ≤ a ∧ a ≤ 930) → N a y = w a y := fun a y u v => by
            rw [hN1 a y u v, f1 a y (by omega)]
          obtain ⟨en, en1, en2, en3⟩ := n4
          obtain ⟨x1, x2, x3⟩ := E1
          have hle : (obL (rvQ f (p.1, mset p.2 1 f true)).1.1 (rvQ f (p.1, mset p.2 1 f true)).1.2).length = (obL p.1 p.2).length - 1 := by
            rw [oe, List.length_eraseIdx_of_lt hk]
          refine ⟨?_, fun m u1 u2 => ?_, hN2, ⟨en, ?_, by omega, ?_⟩, ?_, ?_, fun j u => ?_, ?_⟩
          · rw [N1 732 88 (by omega) (by omega), w3 732 88 (by omega) (by omega) (by omega), vn 0 0 (by omega)]; exact n1
          · rw [vn 0 0 (by omega)] at u2
            rw [N1 927 m (by omega) (by omega), w3 927 m (by omega) (by omega) (by omega), N1 928 m (by omega) (by omega), w3 928 m (by omega) (by omega) (by omega), vn 1 m (by omega), vb0]
            exact n2 m u1 u2
          · rw [N1 732 96 (by omega) (by omega), w3 732 96 (by omega) (by omega) (by omega)]; exact en1
          · rw [x3, en3]
            by_cases c1 : en < eS e
            · rw [decide_eq_true c1, decide_eq_true (show en < eS e1 by omega), Bool.true_or]
            · rw [decide_eq_false c1, Bool.false_or]
              by_cases c2 : eS e < eS e1
              · rw [decide_eq_true c2, decide_eq_true (show en < eS e1 by omega)]
              · rw [decide_eq_false c2, decide_eq_false (show ¬ en < eS e1 by omega)]
          · rw [N1 732 94 (by omega) (by omega), w3 732 94 (by omega) (by omega) (by omega), vn 0 2 (by omega)]; exact n5
          · rw [N1 732 91 (by omega) (by omega), w9, hle]
          · have hj : j < (obL p.1 p.2).length - 1 := by rw [← hle]; exact u
            have hmem := ob_mem.mp (List.getElem_mem u)
            rw [vn 0 2 (by omega)] at hmem
            rw [N1 929 j (by omega) (by omega), N1 930 j (by omega) (by omega), (w1 j hj hj).1, (w1 j hj hj).2, idq _ (by omega)]
            have eg : (obL (rvQ f (p.1, mset p.2 1 f true)).1.1 (rvQ f (p.1, mset p.2 1 f true)).1.2)[j] = (obL p.1 p.2)[if j < k then j else j + 1]'(by split <;> omega) := by
              have := List.getElem_eraseIdx (l := obL p.1 p.2) (i := k) (j := j) (by rw [← oe]; exact u)
              simp only [oe]
              rw [this]
              split <;> rfl
            rw [eg]
            exact n7 _ _
          · rw [hle, vn 0 3 (by omega), vn 0 2 (by omega)]
            have : e1 0 ≤ e 0 + 1 := by
              rcases vm with z | z
              · rw [R1.1 z]; omega
              · by_cases z0 : (rvQ f (p.1, mset p.2 1 f true)).2 = 0
                · rw [R1.1 z0]; omega
                · rw [(R1.2 z0).1]; exact Nat.le_refl _
            omega
        have q95 : M1 732 95 = sI (e 0) := by rw [f1 732 95 (by omega), w3 732 95 (by omega) (by omega) (by omega)]; exact n3
        have fw : ∀ a y, ¬ ((a = 732 ∧ y = 91) ∨ a = 869 ∨ (872 ≤ a ∧ a ≤ 879) ∨ (882 ≤ a ∧ a ≤ 901) ∨ a = 929 ∨ a = 930) → M1 a y = M a y := fun a y u => by
          rw [f1 a y (by omega), w3 a y (by omega) (by omega) (by omega)]
        rw [show (0 : Int32) = sI 0 from rfl, m_ended17 T1 (by omega), mb3_s, mset_n (show ¬ (732 = 869 ∧ 95 = 0) by omega), q95]
        by_cases z0 : (rvQ f (p.1, mset p.2 1 f true)).2 = 0
        · have e10 := R1.1 z0
          rw [if_pos (by rw [e10])]
          refine wq_some (k0 _ L1 e1 (TfM_fr T1 (fun a y _ _ _ u => mset_n (by omega)) (fun _ _ _ _ => rfl)) (mkN' _ (fun a y u v => mset_n (by omega)) (by rw [mset_n (by omega), q95, e10])) (fun a y u => by rw [mset_n (by omega)]; exact fw a y (by omega)) f2 z0)
        · obtain ⟨e10, g40, g900⟩ := R1.2 z0
          have hmf : (rvQ f (p.1, mset p.2 1 f true)).2 = p.1 11 f := by
            rcases vm with z | z
            · exact absurd z z0
            · exact z
          rw [if_neg (by rw [e10, sI_eq (by omega) (by omega)]; omega)]
          simp only [mlet]
          rw [sI_1]
          unfold DX17_length
          simp only [mlet]
          rw [mb3_s, mset_n (show ¬ (869 = 869 ∧ 40 = 0) by omega), mset_n (show ¬ (869 = 732 ∧ 40 = 95) by omega), mset_n (show ¬ (869 = 869 ∧ 40 = 0) by omega), g40, hmf]
          have hgm := hg
          generalize hmm : p.1 11 f = m at *
          have hM := hv.2.1 m hgm.2.1 hgm.2.2.1
          have h100 := hM.2.2.1
          have hcm : p.1 1 m = c := hw.1
          have to := (h.2.2.1 m hgm.2.1 hgm.2.2.1).1
          rw [hmf] at g900
          generalize hN9 : mset (mset (mset M1 869 0 0) 732 95 (sI (e 0 + 1))) 869 0 0 = N9
          have n9 : ∀ a y, ¬ (a = 869 ∧ y = 0) → ¬ (a = 732 ∧ y = 95) → N9 a y = M1 a y := fun a y u v => by rw [← hN9, mset_n u, mset_n v, mset_n u]
          have n95 : N9 732 95 = sI (e 0 + 1) := by rw [← hN9, mset_n (by omega), mset_s]
          -- what was got
          refine wq_for (body := fun r z => fX19_arrive_i150 fu (sI id) r z.1 z.2.1 z.2.2.1 z.2.2.2.1 z.2.2.2.2) (fun i (x : mwM) => (sI (f + 1), sI (p.1 2 m), sI i, x, L1)) (fun i x => (∀ j, j < i → x 932 j = sI (o m j)) ∧ ∀ a y, ¬ (a = 869 ∧ y = 0) → a ≠ 932 → x a y = N9 a y) (p.1 2 m) ?_ ?_ (p.1 2 m) 0 N9 fu (by omega) (by omega) ⟨fun j u => by omega, fun _ _ _ _ => rfl⟩
          · intro i x r4 hi ⟨x1, x2⟩ ih4
            show wq (fX19_arrive_i150 fu (sI id) r4 (sI (f + 1)) (sI (p.1 2 m)) (sI i) x L1) _
            unfold fX19_arrive_i150
            have hoi := (to i hi).2
            rw [if_neg (by rw [sI_le (by omega) (by omega)]; omega), m_got17 (sz := p.1 2 m) (x := o m i) hi (by omega) (by rw [x2 869 40 (by omega) (by omega), n9 869 40 (by omega) (by omega), g40, hmf]) (by rw [x2 900 i (by omega) (by omega), n9 900 i (by omega) (by omega), g900 i hi]) hoi, mb3_s, mck_s (by omega) (by omega), sI_nn (by omega), sB_a _ hoi]
            simp only [mlet]
            rw [sI_1]
            refine ih4 _ ⟨fun j u => ?_, fun a y u v => by rw [mset_n (by omega), mset_n (by omega)]; exact x2 a y u v⟩
            by_cases hj : j = i
            · rw [hj, mset_s]
            · rw [mset_j hj, mset_n (by omega)]; exact x1 j (by omega)
          · intro x r4 ⟨x1, x2⟩
            show wq (fX19_arrive_i150 fu (sI id) r4 (sI (f + 1)) (sI (p.1 2 m)) (sI (p.1 2 m)) x L1) _
            unfold fX19_arrive_i150 fX19_arrive_b297
            have T5 : TfM x L1 (p.1 0 3) (rvQ f (p.1, mset p.2 1 f true)).1.1 (rvQ f (p.1, mset p.2 1 f true)).1.2 o e1 := TfM_fr T1 (fun a y u1 u2 u3 u4 => by rw [x2 a y (by omega) (by omega), n9 a y (by omega) (by omega)]) (fun _ _ _ _ => rfl)
            have F1 : f < (rvQ f (p.1, mset p.2 1 f true)).1.1 0 1 := by
              have : p.1 0 1 ≤ (rvQ f (p.1, mset p.2 1 f true)).1.1 0 1 := by
                unfold rvQ nxQ
                dsimp only
                split
                · split
                  · dsimp only
                    rw [mset_n (by omega)]; exact Nat.le_refl _
                  · exact Nat.le_refl _
                · split
                  · split
                    · split
                      · split
                        · dsimp only
                          unfold gtN
                          rw [mset_n (by omega), mset_n (by omega), mset_n (by omega)]; exact Nat.le_refl _
                        · dsimp only
                          rw [mset_n (by omega)]; exact Nat.le_refl _
                      · dsimp only
                        rw [mset_n (by omega)]; exact Nat.le_refl _
                    · exact Nat.le_refl _
                  · split
                    · dsimp only
                      rw [mset_n (by omega)]; exact Nat.le_refl _
                    · dsimp only
                      unfold fsP
                      dsimp only
                      rw [mk_F, fs_F]; omega
              omega
            have fa := m_frameA (fu := fu) (w := 1) hvr T5 F1 (by omega) (by omega)
            rw [if_neg (by omega), if_pos rfl, vf 11 f (by omega) hf1, hmm] at fa
            rw [if_pos (by rw [sI_le (by omega) (by omega)]; omega), show (1 : Int32) = sI 1 from rfl, fa, mb3_s, mck_s (by omega) (by omega), sI_nn (by omega)]
            have q928 : mset x 869 0 0 928 m = bI (p.2 0 m) := by
              rw [mset_n (by omega), x2 928 m (by omega) (by omega), n9 928 m (by omega) (by omega), fw 928 m (by omega)]
              exact (n2 m hgm.2.1 hgm.2.2.1).2
            have q927 : mset x 869 0 0 927 m = sI c := by
              rw [mset_n (by omega), x2 927 m (by omega) (by omega), n9 927 m (by omega) (by omega), fw 927 m (by omega), ← hcm]
              exact (n2 m hgm.2.1 hgm.2.2.1).1
            rw [q928, mck_s (by omega) (by omega), mck_s (by omega) (by omega), q927]
            have T6 : TfM (mset x 869 0 0) L1 (p.1 0 3) (rvQ f (p.1, mset p.2 1 f true)).1.1 (rvQ f (p.1, mset p.2 1 f true)).1.2 o e1 := TfM_fr T5 (fun a y _ _ _ u => mset_n (by omega)) (fun _ _ _ _ => rfl)
            have N6 : TfN (mset x 869 0 0) (rvQ f (p.1, mset p.2 1 f true)).1.1 (rvQ f (p.1, mset p.2 1 f true)).1.2 e1 := mkN' _ (fun a y u v => by rw [mset_n (by omega), x2 a y (by omega) (by omega), n9 a y (by omega) u]) (by rw [mset_n (by omega), x2 732 95 (by omega) (by omega), n95, e10])
            have A6 : aFr M (mset x 869 0 0) := fun a y u => by rw [mset_n (by omega), x2 a y (by omega) (by omega), n9 a y (by omega) (by omega), fw a y (by omega)]
            have O6 : ∀ j, j < p.1 2 m → mset x 869 0 0 932 j = sI (o m j) := fun j u => by rw [mset_n (by omega)]; exact x1 j u
            cases hb : p.2 0 m with
            | false =>
              rw [if_pos (show bI false = 0 from rfl)]
              simp only [mlet]
              exact k2 _ L1 e1 m T6 N6 A6 f2 hmf.symm hgm.2.1 hgm.2.2.1 hcm O6 hb
            | true =>
              rw [if_neg (show ¬ bI true = 0 by decide)]
              have := k1 _ L1 e1 m T6 N6 A6 f2 hmf.symm hgm.2.1 hgm.2.2.1 hcm O6 hb
              exact this
      · rw [mset_n (by omega), mset_n (by omega), if_pos u1]
        exact ⟨rfl, rfl⟩
      · rw [mset_n (by omega), mset_n (by omega)]
        exact ⟨rfl, rfl⟩
      · rw [mset_n u1]
    · rw [if_neg (by rw [sI_eq (by omega) (by have : (if tt = true then 1 else 0) ≤ 1 := (by split <;> omega); omega)]; exact hq)]
      simp only [mlet]
      rw [sI_1]
      refine ih () (fun j hj hji => ?_)
      by_cases hjk : j = k
      · subst hjk
        rw [hfk]
        exact hq
      · exact hn j hj (by omega)
  · intro _ r hn
    show wq (fX19_arrive_i2 fu (sI id) r (sI (obL p.1 p.2).length) M L) _
    unfold fX19_arrive_i2 fX19_arrive_b26
    rw [n6, if_pos (by rw [sI_le (by omega) (by omega)]; omega), if_pos rfl]
    have erc : rchP c tt p = (p, 0) := by
      refine rch_none (fun g hg => ?_)
      cases hgo : onW p.1 p.2 c tt g with
      | false => rfl
      | true =>
        exfalso
        unfold onW at hgo
        simp at hgo
        obtain ⟨o1, o2, o3⟩ := hgo
        have hgm : g ∈ obL p.1 p.2 := ob_mem.mpr ⟨hg, o1⟩
        obtain ⟨j, hj, hjg⟩ := List.getElem_of_mem hgm
        refine hn j hj hj ?_
        rw [hjg]
        exact (id_eq.mpr ⟨o2, o3⟩).trans hid
    rw [erc] at k0
    exact wq_some (k0 M L e h ⟨n1, n2, n3, n4, n5, n6, n7, n8⟩ (fun _ _ _ => rfl) (fun _ _ _ => rfl) rfl)
/-! the reference: a message is made; all begins anew -/
theorem TfM_ma {M M' : mwM} {L : mwL} {τ c sz : Nat} {a : Bool} {n : Nat → Nat → Nat} {b : Nat → Nat → Bool} {o : Nat → Nat → Nat} {e v : Nat → Nat} (hv : TfV n b) (h : TfM M L τ n b o e) (hK : n 0 0 < 100) (hA : ∀ x y, 869 ≤ x → x ≤ 901 → ¬ (x = 869 ∧ (y = 0 ∨ y = 3)) → ¬ (x = 870 ∧ y = n 0 0 + 2) → ¬ (x = 871 ∧ suN (n 2) (n 0 0) ≤ y) → M' x y = M x y) (h3 : M' 869 3 = sI (n 0 0 + 1)) (h870 : M' 870 (n 0 0 + 2) = sI (suN (n 2) (n 0 0) + sz)) (h871 : ∀ i, i < sz → M' 871 (suN (n 2) (n 0 0) + i) = sB (v i) ∧ v i < 256) : TfM M' L τ (maN c sz n) (maB a n b) (maO v n o) e := by
  obtain ⟨k1, k2, k3, k4, k5, k6, k7⟩ := h
  obtain ⟨m1, m2, m3, m4⟩ := @ma_1 c sz n
  have su : ∀ k, k ≤ n 0 0 → suN (maN c sz n 2) k = suN (n 2) k := fun k hk => su_eq k (fun m u1 u2 => ma_o (by omega) (by omega))
  refine ⟨?_, ?_, ?_, ?_, ?_, ?_, ?_⟩
  · unfold TmG
    rw [ma_0, ma_o (by omega) (by omega), hA 869 1 (by omega) (by omega) (by omega) (by omega) (by omega), hA 869 26 (by omega) (by omega) (by omega) (by omega) (by omega), hA 869 35 (by omega) (by omega) (by omega) (by omega) (by omega), hA 869 36 (by omega) (by omega) (by omega) (by omega) (by omega), hA 869 37 (by omega) (by omega) (by omega) (by omega) (by omega), hA 869 39 (by omega) (by omega) (by omega) (by omega) (by omega)]
    exact ⟨k1.1, k1.2.1, h3, k1.2.2.2⟩
  · intro m u
    rw [ma_0] at u
    by_cases hq : m = n 0 0 + 1
    · subst hq
      rw [show n 0 0 + 1 + 1 = n 0 0 + 2 by omega, h870, su_S (g := maN c sz n 2) (m := n 0 0 + 1) (by omega), show n 0 0 + 1 - 1 = n 0 0 by omega, su _ (Nat.le_refl _), m2]
    · rw [hA 870 _ (by omega) (by omega) (by omega) (by omega) (by omega), su m (by omega)]
      exact k2 m (by omega)
  · intro m u1 u2
    rw [ma_0] at u2
    by_cases hq : m = n 0 0 + 1
    · subst hq
      have f := k4 (n 0 0 + 1) (by omega) (by omega)
      refine ⟨fun i u => ?_, ?_⟩
      · rw [m2] at u
        rw [show n 0 0 + 1 - 1 = n 0 0 by omega, su _ (Nat.le_refl _)]
        unfold maO
        rw [if_pos rfl]
        exact h871 i u
      · unfold TmS
        rw [m3, hA 872 _ (by omega) (by omega) (by omega) (by omega) (by omega), hA 873 _ (by omega) (by omega) (by omega) (by omega) (by omega), hA 875 _ (by omega) (by omega) (by omega) (by omega) (by omega), f.1, f.2.1]
        exact ⟨rfl, rfl, fun z => by omega, fun _ => f.2.2, fun z => by omega, fun z => by omega⟩
    · have t := k3 m u1 (by omega)
      have hsm : suN (n 2) (m - 1) + n 2 m ≤ suN (n 2) (n 0 0) := by
        rw [← su_S u1]
        have : ∀ k, m ≤ k → suN (n 2) m ≤ suN (n 2) k := by
          intro k hk
          induction k with
          | zero =>
            have : m = 0 := by omega
            omega
          | succ k ih =>
            by_cases hk2 : m = k + 1
            · rw [hk2]; exact Nat.le_refl _
            · have := ih (by omega)
              show _ ≤ suN (n 2) k + n 2 (k + 1)
              omega
        exact this _ (by omega)
      refine ⟨fun i u => ?_, ?_⟩
      · rw [ma_o (by omega) (by omega)] at u
        rw [su _ (by omega), hA 871 _ (by omega) (by omega) (by omega) (by omega) (by omega)]
        unfold maO
        rw [if_neg hq]
        exact t.1 i u
      · unfold TmS
        rw [ma_o (by omega) (by omega), ma_o (by omega) (by omega), hA 872 _ (by omega) (by omega) (by omega) (by omega) (by omega), hA 873 _ (by omega) (by omega) (by omega) (by omega) (by omega), hA 874 _ (by omega) (by omega) (by omega) (by omega) (by omega), hA 875 _ (by omega) (by omega) (by omega) (by omega) (by omega), hA 876 _ (by omega) (by omega) (by omega) (by omega) (by omega), hA 878 _ (by omega) (by omega) (by omega) (by omega) (by omega)]
        exact t.2
  · intro m u1 u2
    rw [ma_0] at u1
    rw [hA 872 _ (by omega) (by omega) (by omega) (by omega) (by omega), hA 873 _ (by omega) (by omega) (by omega) (by omega) (by omega), hA 875 _ (by omega) (by omega) (by omega) (by omega) (by omega)]
    exact k4 m (by omega) u2
  · intro r u
    have t := k5 r u
    have vr := (hv.2.2.1 r u).2
    unfold TmR
    rw [ma_o (i := 5) (by omega) (by omega), ma_o (i := 6) (by omega) (by omega), ma_o (i := 7) (by omega) (by omega), ma_o (i := 8) (by omega) (by omega), ma_o (i := 9) (by omega) (by omega), hA 882 _ (by omega) (by omega) (by omega) (by omega) (by omega), hA 883 _ (by omega) (by omega) (by omega) (by omega) (by omega), hA 884 _ (by omega) (by omega) (by omega) (by omega) (by omega), hA 885 _ (by omega) (by omega) (by omega) (by omega) (by omega), hA 886 _ (by omega) (by omega) (by omega) (by omega) (by omega), hA 887 _ (by omega) (by omega) (by omega) (by omega) (by omega), hA 890 _ (by omega) (by omega) (by omega) (by omega) (by omega)]
    refine ⟨t.1, fun z => ?_⟩
    have t2 := t.2 z
    have v2 := vr z
    rw [ma_o (by omega) (by omega)]
    refine ⟨t2.1, t2.2.1, t2.2.2.1, t2.2.2.2.1, t2.2.2.2.2.1, t2.2.2.2.2.2.1, t2.2.2.2.2.2.2.1, fun i w => ?_⟩
    rw [hA 891 _ (by omega) (by omega) (by omega) (by omega) (by omega)]
    unfold maO
    rw [if_neg (by omega)]
    exact t2.2.2.2.2.2.2.2 i w
  · intro f u
    rw [ma_o (by omega) (by omega)] at u
    have t := k6 f u
    have vf := hv.2.2.2 f u
    have en : nuO (maN c sz n) f = nuO n f := by
      unfold nuO
      rw [ma_o (i := 10) (by omega) (by omega), ma_o (i := 11) (by omega) (by omega), ma_o (i := 12) (by omega) (by omega), ma_o (i := 2) (by omega) (by omega)]
    have ec : coO (maN c sz n) f = coO n f := by
      unfold coO
      rw [ma_o (i := 10) (by omega) (by omega), ma_o (i := 11) (by omega) (by omega), ma_o (i := 12) (by omega) (by omega), ma_o (i := 2) (by omega) (by omega)]
    unfold TmF
    rw [en, ec, ma_o (i := 10) (by omega) (by omega), ma_o (i := 11) (by omega) (by omega), ma_o (i := 12) (by omega) (by omega), maB_o (by omega), hA 892 _ (by omega) (by omega) (by omega) (by omega) (by omega), hA 893 _ (by omega) (by omega) (by omega) (by omega) (by omega), hA 894 _ (by omega) (by omega) (by omega) (by omega) (by omega), hA 895 _ (by omega) (by omega) (by omega) (by omega) (by omega), hA 896 _ (by omega) (by omega) (by omega) (by omega) (by omega), hA 898 _ (by omega) (by omega) (by omega) (by omega) (by omega)]
    refine ⟨t.1, t.2.1, t.2.2.1, t.2.2.2.1, t.2.2.2.2.1, t.2.2.2.2.2.1, fun k w => ?_⟩
    rw [hA 899 _ (by omega) (by omega) (by omega) (by omega) (by omega)]
    unfold maO
    rw [if_neg (by omega)]
    exact t.2.2.2.2.2.2 k w
  · intro k u
    rw [hA 901 _ (by omega) (by omega) (by omega) (by omega) (by omega)]
    exact k7 k u
theorem T_ma {c sz : Nat} {n : Nat → Nat → Nat} (h : TfT n (n 0 3)) : TfT (maN c sz n) (maN c sz n 0 3) := by
  obtain ⟨m1, m2, m3, m4⟩ := @ma_1 c sz n
  rw [ma_o (by omega) (by omega)]
  refine ⟨fun m u1 u2 z => ?_, fun r u z => ?_⟩
  · rw [ma_0] at u2
    by_cases hq : m = n 0 0 + 1
    · rw [hq, m3] at z; omega
    · rw [ma_o (by omega) (by omega)] at z
      rw [ma_o (by omega) (by omega)]
      exact h.1 m u1 (by omega) z
  · rw [ma_o (by omega) (by omega)] at z
    rw [ma_o (by omega) (by omega)]
    exact h.2 r u z
theorem ob_ma {c sz : Nat} {a : Bool} {n : Nat → Nat → Nat} {b : Nat → Nat → Bool} : obL (maN c sz n) (maB a n b) = obL n b := by
  unfold obL
  rw [ma_o (by omega) (by omega)]
  refine List.filter_congr (fun g _ => ?_)
  rw [maB_o (by omega)]
theorem m_say19 {fu c sz : Nat} {a : Bool} {M : mwM} {L : mwL} {n : Nat → Nat → Nat} {b : Nat → Nat → Bool} {o : Nat → Nat → Nat} {e v : Nat → Nat} (hfu : 200 ≤ fu) (hv : TfV n b) (h : TfM M L (n 0 3) n b o e) (hN : TfN M n b e) (hs : 1 ≤ sz ∧ sz ≤ 100) (h102 : M 732 102 = sI sz) (h933 : ∀ i, i < sz → M 933 i = sI (v i) ∧ v i < 256) (hK : n 0 0 < 100) : wq (DX19_say fu (sI c) (bI a) M L) (fun z => z.2 = L ∧ TfM z.1 L (n 0 3) (maN c sz n) (maB a n b) (maO v n o) e ∧ TfN z.1 (maN c sz n) (maB a n b) e ∧ ∀ x y, ¬ ((x = 732 ∧ y = 88) ∨ (869 ≤ x ∧ x ≤ 871) ∨ x = 927 ∨ x = 928) → z.1 x y = M x y) := by
  have hsk := su_k (TfV_W.mp hv).1 (n 0 0) (Nat.le_refl _)
  have e3 := h.1.2.2.1
  have e39 := h.1.2.2.2.2.2.2.2
  have e870 := h.2.1 (n 0 0) (Nat.le_refl _)
  obtain ⟨n1, n2, n3, n4, n5, n6, n7, n8⟩ := hN
  unfold DX19_say DX17_send fX17_send_b50
  simp only [mlet]
  rw [h102, if_neg (by rw [sI_ltl (by omega) (by decide)]; omega), if_pos (by rw [sI_lel (by omega) (by decide)]; omega), mset_n (show ¬ (869 = 869 ∧ 3 = 0) by omega), e3, if_neg (by rw [sI_eql (by omega) (by decide)]; omega), if_neg (show ¬ sI sz = 0 by rw [sI_eql (by omega) (by decide)]; omega), mset_n (show ¬ (869 = 869 ∧ 39 = 0) by omega), e39, if_pos (show (0 : Int32) = 0 from rfl), sI_1, mset_s, sI_1, mck_s (by omega) (by omega), mck_s (by omega) (by omega), sI_nn (by omega), sI_nn (by omega), mset_n (show ¬ (870 = 869 ∧ n 0 0 + 1 = 3) by omega), mset_n (show ¬ (870 = 869 ∧ n 0 0 + 1 = 0) by omega), e870, sI_add, mb3_s]
  rw [mset_n (show ¬ (869 = 870 ∧ 3 = n 0 0 + 1 + 1) by omega), mset_s, if_pos (by rw [sI_lle (by decide) (by omega)]; omega), mck_s (by omega) (by omega), mck_s (by omega) (by omega), sI_nn (by omega), bI_n, mset_n (show ¬ (732 = 870 ∧ 88 = n 0 0 + 1 + 1) by omega), mset_n (show ¬ (732 = 869 ∧ 88 = 3) by omega), mset_n (show ¬ (732 = 869 ∧ 88 = 0) by omega), n1, sI_1]
  generalize hN0 : mset (mset (mset (mset (mset (mset M 869 0 0) 869 3 (sI (n 0 0 + 1))) 870 (n 0 0 + 1 + 1) (sI (suN (n 2) (n 0 0) + sz))) 732 88 (sI (n 0 0 + 1))) 927 (n 0 0 + 1) (sI c)) 928 (n 0 0 + 1) (bI a) = N
  have nf : ∀ x y, ¬ (x = 869 ∧ (y = 0 ∨ y = 3)) → ¬ (x = 870 ∧ y = n 0 0 + 2) → ¬ (x = 732 ∧ y = 88) → ¬ (y = n 0 0 + 1 ∧ (x = 927 ∨ x = 928)) → N x y = M x y := fun x y u1 u2 u3 u4 => by
    rw [← hN0, mset_n (by omega), mset_n (by omega), mset_n (by omega), mset_n (by omega), mset_n (by omega), mset_n (by omega)]
  have p3 : N 869 3 = sI (n 0 0 + 1) := by rw [← hN0, mset_n (by omega), mset_n (by omega), mset_n (by omega), mset_n (by omega), mset_s]
  have p870 : N 870 (n 0 0 + 2) = sI (suN (n 2) (n 0 0) + sz) := by rw [← hN0, mset_n (by omega), mset_n (by omega), mset_n (by omega)]; exact mset_s
  have p88 : N 732 88 = sI (n 0 0 + 1) := by rw [← hN0, mset_n (by omega), mset_n (by omega), mset_s]
  have p927 : N 927 (n 0 0 + 1) = sI c := by rw [← hN0, mset_n (by omega), mset_s]
  have p928 : N 928 (n 0 0 + 1) = bI a := by rw [← hN0, mset_s]
  refine wq_for (body := fun r z => fX19_say_i45 fu (sI c) (bI a) r z.1 z.2.1 z.2.2.1 z.2.2.2) (fun i (w : mwM) => (sI (n 0 0 + 1), sI i, w, L)) (fun i w => (∀ j, j < i → w 871 (suN (n 2) (n 0 0) + j) = sB (v j)) ∧ ∀ x y, ¬ (x = 869 ∧ y = 0) → ¬ (x = 871 ∧ suN (n 2) (n 0 0) ≤ y) → w x y = N x y) sz ?_ ?_ sz 0 N fu (by omega) (by omega) ⟨fun j u => by omega, fun _ _ _ _ => rfl⟩
  · intro i w r hi ⟨q1, q2⟩ ih
    show wq (fX19_say_i45 fu (sI c) (bI a) r (sI (n 0 0 + 1)) (sI i) w L) _
    obtain ⟨v1, v2⟩ := h933 i hi
    unfold fX19_say_i45 DX17_octet fX17_octet_b31 DX17_size
    simp only [mlet]
    rw [q2 732 102 (by omega) (by omega), nf 732 102 (by omega) (by omega) (by omega) (by omega), h102, if_neg (by rw [sI_le (by omega) (by omega)]; omega), mck_s (by omega) (by omega), sI_nn (show i < 2000000000 by omega), q2 933 i (by omega) (by omega), nf 933 i (by omega) (by omega) (by omega) (by omega), v1, if_neg (by rw [sI_ltl (by omega) (by decide)]; omega), mset_n (show ¬ (869 = 869 ∧ 3 = 0) by omega), q2 869 3 (by omega) (by omega), p3, if_neg (by rw [sI_lt (by omega) (by omega)]; omega), if_neg (by rw [sI_ltl (by omega) (by decide)]; omega), sI_1, mck_s (by omega) (by omega), mck_s (by omega) (by omega), sI_nn (by omega), sI_nn (by omega), mset_n (show ¬ (870 = 869 ∧ n 0 0 + 1 + 1 = 0) by omega), mset_n (show ¬ (870 = 869 ∧ n 0 0 + 1 = 0) by omega), q2 870 _ (by omega) (by omega), q2 870 _ (by omega) (by omega), p870, nf 870 (n 0 0 + 1) (by omega) (by omega) (by omega) (by omega), e870, sI_sub (by omega), show suN (n 2) (n 0 0) + sz - suN (n 2) (n 0 0) = sz by omega, mb3_s, if_pos (by rw [sI_lt (by omega) (by omega)]; exact hi), mck_s (by omega) (by omega), mset_n (show ¬ (870 = 869 ∧ n 0 0 + 1 = 0) by omega), q2 870 _ (by omega) (by omega), nf 870 (n 0 0 + 1) (by omega) (by omega) (by omega) (by omega), e870, sI_add, mck_s (by omega) (by omega), sI_nn (by omega), mb2_s, sI_1]
    refine ih _ ⟨fun j u => ?_, fun x y u1 u2 => by rw [mset_n (by omega), mset_n (by omega)]; exact q2 x y u1 u2⟩
    by_cases hq : j = i
    · rw [hq, mset_s]
      exact sB_n _ v2
    · rw [mset_n (by omega), mset_n (by omega)]; exact q1 j (by omega)
  · intro w r ⟨q1, q2⟩
    show wq (fX19_say_i45 fu (sI c) (bI a) r (sI (n 0 0 + 1)) (sI sz) w L) _
    unfold fX19_say_i45
    rw [q2 732 102 (by omega) (by omega), nf 732 102 (by omega) (by omega) (by omega) (by omega), h102, if_pos (by rw [sI_le (by omega) (by omega)]; omega)]
    refine wq_some ⟨rfl, ?_, ?_, fun x y u => ?_⟩
    all_goals (try dsimp only)
    · refine TfM_ma hv h hK (fun x y u1 u2 u3 u4 u5 => ?_) ?_ ?_ (fun i u => ⟨q1 i u, (h933 i u).2⟩)
      · rw [q2 x y (by omega) u5, nf x y u3 u4 (by omega) (by omega)]
      · rw [q2 869 3 (by omega) (by omega)]; exact p3
      · rw [q2 870 _ (by omega) (by omega)]; exact p870
    · obtain ⟨m1, m2, m3, m4⟩ := @ma_1 c sz n
      refine ⟨?_, fun m u1 u2 => ?_, ?_, ?_, ?_, ?_, ?_, ?_⟩
      · rw [q2 732 88 (by omega) (by omega), p88, ma_0]
      · rw [ma_0] at u2
        rw [q2 927 m (by omega) (by omega), q2 928 m (by omega) (by omega)]
        by_cases hq : m = n 0 0 + 1
        · rw [hq, p927, p928, m1, (@maB_0 a n b).1]
          exact ⟨rfl, rfl⟩
        · rw [nf 927 m (by omega) (by omega) (by omega) (by omega), nf 928 m (by omega) (by omega) (by omega) (by omega), ma_o (by omega) (by omega), maB_o (by omega)]
          exact n2 m u1 (by omega)
      · rw [q2 732 95 (by omega) (by omega), nf 732 95 (by omega) (by omega) (by omega) (by omega)]; exact n3
      · rw [q2 732 96 (by omega) (by omega), nf 732 96 (by omega) (by omega) (by omega) (by omega), maB_o (by omega)]; exact n4
      · rw [q2 732 94 (by omega) (by omega), nf 732 94 (by omega) (by omega) (by omega) (by omega), ma_o (by omega) (by omega)]; exact n5
      · rw [q2 732 91 (by omega) (by omega), nf 732 91 (by omega) (by omega) (by omega) (by omega), ob_ma]; exact n6
      · have key : ∀ k (hk : k < (obL n b).length), w 929 k = sI ((obL n b)[k] + 1) ∧ w 930 k = sI (idO (maN c sz n) (maB a n b) (obL n b)[k]) := by
          intro k hk
          have hm := ob_mem.mp (List.getElem_mem hk)
          have hf := hv.2.2.2 (obL n b)[k] (by have := hv.1.2.1; omega)
          rw [q2 929 k (by omega) (by omega), nf 929 k (by omega) (by omega) (by omega) (by omega), q2 930 k (by omega) (by omega), nf 930 k (by omega) (by omega) (by omega) (by omega)]
          have ei : idO (maN c sz n) (maB a n b) (obL n b)[k] = idO n b (obL n b)[k] := by
            unfold idO toT
            rw [ma_o (i := 11) (by omega) (by omega), ma_o (i := 10) (by omega) (by omega), ma_o (i := 1) (by omega) (by omega), maB_o (by omega)]
          rw [ei]
          exact n7 k hk
        intro k hk
        simp only [ob_ma] at hk ⊢
        exact key k hk
      · rw [ob_ma, ma_o (by omega) (by omega), ma_o (by omega) (by omega)]; exact n8
    · by_cases hx : x = 871 ∧ suN (n 2) (n 0 0) ≤ y
      · omega
      · rw [q2 x y (by omega) hx, nf x y (by omega) (by omega) (by omega) (by omega)]
/-- a hundred messages are all -/
theorem m_say19n {fu : Nat} {c a sz : Int32} {M : mwM} {L : mwL} {n : Nat → Nat → Nat} {b : Nat → Nat → Bool} {o : Nat → Nat → Nat} {e : Nat → Nat} {s : Nat} (h : TfM M L (n 0 3) n b o e) (hs : s ≤ 100) (h102 : M 732 102 = sI s) (hK : n 0 0 = 100) : DX19_say fu c a M L = some (mset M 869 0 0, L) := by
  unfold DX19_say DX17_send
  simp only [mlet]
  rw [h102, if_neg (by rw [sI_ltl (by omega) (by decide)]; omega), if_pos (by rw [sI_lel (by omega) (by decide)]; omega), mset_n (show ¬ (869 = 869 ∧ 3 = 0) by omega), h.1.2.2.1, hK, if_pos (show sI 100 = 100 from rfl), mb3_s, if_neg (by decide)]
/-! the reference: all begins anew -/
theorem m_anew17 {fu : Nat} {M : mwM} {L : mwL} {o : Nat → Nat → Nat} (hfu : 20100 ≤ fu) (h870 : M 870 1 = sI 0) : wq (DX17_anew fu 4095 M L) (fun z => TfM z.1 z.2 0 tn0 tb0 o (fun _ => 0) ∧ (∀ a y, ¬ (869 ≤ a ∧ a ≤ 901) → z.1 a y = M a y) ∧ ∀ a y, a ≠ 869 → z.2 a y = L a y) := by
  unfold DX17_anew
  simp only [mlet]
  generalize hN : mset (mset (mset (mset (mset (mset (mset (mset (mset M 869 1 4095) 869 3 0) 869 26 0) 869 35 0) 869 36 0) 869 37 0) 869 38 3) 869 39 0) 869 40 0 = N
  have g1 : N 869 1 = sI 4095 ∧ N 869 3 = sI 0 ∧ N 869 26 = sI 0 ∧ N 869 35 = sI 0 ∧ N 869 36 = sI 0 ∧ N 869 37 = sI 0 ∧ N 869 39 = 0 := by
    rw [← hN]
    simp (disch := omega) only [mset_n, mset_s]
    exact ⟨rfl, rfl, rfl, rfl, rfl, rfl, trivial⟩
  have gf : ∀ a y, a ≠ 869 → N a y = M a y := fun a y u => by
    rw [← hN]
    simp (disch := omega) only [mset_n]
  clear hN
  generalize hL : mset L 869 2 0 = L1
  have gl : L1 869 2 = sL 0 ∧ ∀ a y, a ≠ 869 → L1 a y = L a y := by
    rw [← hL]
    exact ⟨mset_s, fun a y u => mset_n (by omega)⟩
  clear hL
  -- what each loop leaves
  have data : ∀ M1 : mwM, (∀ a y, a ≠ 871 → a ≠ 872 → a ≠ 873 → a ≠ 874 → a ≠ 875 → a ≠ 876 → a ≠ 877 → a ≠ 879 → a ≠ 882 → a ≠ 901 → M1 a y = N a y) → (∀ m, m < 101 → M1 872 m = 0 ∧ M1 873 m = 0 ∧ M1 875 m = sI 0) → (∀ r, r < 4 → M1 882 r = sI 0) → (∀ k, k < 8 → M1 901 k = sI 0) → wq (fX17_anew_h156 fu 4095 fu (0, M1, L1)) (fun z => TfM z.1 z.2 0 tn0 tb0 o (fun _ => 0) ∧ (∀ a y, ¬ (869 ≤ a ∧ a ≤ 901) → z.1 a y = M a y) ∧ ∀ a y, a ≠ 869 → z.2 a y = L a y) := by
    intro M1 c1 c2 c3 c4
    refine wq_for (body := fun r z => fX17_anew_i156 fu 4095 r z.1 z.2.1 z.2.2) (fun i (w : mwM) => (sI i, w, L1)) (fun _ w => ∀ a y, a ≠ 871 → w a y = M1 a y) 20000 ?_ ?_ 20000 0 M1 fu (by omega) (by omega) (fun _ _ _ => rfl)
    · intro i w r hi q ih
      show wq (fX17_anew_i156 fu 4095 r (sI i) w L1) _
      unfold fX17_anew_i156
      rw [if_neg (by rw [sI_lle (by decide) (by omega)]; omega), mck_s (by omega) (by omega)]
      simp only [mlet]
      rw [sI_1]
      exact ih _ (fun a y u => by rw [mset_n (by omega)]; exact q a y u)
    · intro w r q
      show wq (fX17_anew_i156 fu 4095 r (sI 20000) w L1) _
      unfold fX17_anew_i156
      rw [if_pos (by decide)]
      refine wq_some ⟨⟨?_, fun m u => ?_, fun m u1 u2 => ?_, fun m u1 u2 => ?_, fun r u => ⟨?_, fun z => ?_⟩, fun f u => ?_, fun k u => ?_⟩, fun a y u => ?_, gl.2⟩
      all_goals (try dsimp only)
      · unfold TmG
        have : ∀ y, w 869 y = N 869 y := fun y => by rw [q 869 y (by omega)]; exact c1 869 y (by omega) (by omega) (by omega) (by omega) (by omega) (by omega) (by omega) (by omega) (by omega) (by omega)
        rw [this, this, this, this, this, this, this]
        exact ⟨g1.1, gl.1, g1.2.1, g1.2.2.1, g1.2.2.2.1, g1.2.2.2.2.1, g1.2.2.2.2.2.1, g1.2.2.2.2.2.2⟩
      · have : m = 0 := by
          have : m ≤ 0 := u
          omega
        subst this
        rw [q 870 _ (by omega), c1 870 _ (by omega) (by omega) (by omega) (by omega) (by omega) (by omega) (by omega) (by omega) (by omega) (by omega), gf 870 _ (by omega)]
        exact h870
      · have : m ≤ 0 := u2
        omega
      · rw [q 872 m (by omega), q 873 m (by omega), q 875 m (by omega)]
        exact c2 m (by omega)
      · rw [q 882 r (by omega)]
        exact c3 r u
      · have : (0 : Nat) = 1 := z
        omega
      · have : f < 0 := u
        omega
      · rw [q 901 k (by omega)]
        exact c4 k u
      · rw [q a y (by omega), c1 a y (by omega) (by omega) (by omega) (by omega) (by omega) (by omega) (by omega) (by omega) (by omega) (by omega), gf a y (by omega)]
  have ends : ∀ M1 : mwM, (∀ a y, a ≠ 872 → a ≠ 873 → a ≠ 874 → a ≠ 875 → a ≠ 876 → a ≠ 877 → a ≠ 879 → a ≠ 882 → M1 a y = N a y) → (∀ m, m < 101 → M1 872 m = 0 ∧ M1 873 m = 0 ∧ M1 875 m = sI 0) → (∀ r, r < 4 → M1 882 r = sI 0) → wq (fX17_anew_h135 fu 4095 fu (0, M1, L1)) (fun z => TfM z.1 z.2 0 tn0 tb0 o (fun _ => 0) ∧ (∀ a y, ¬ (869 ≤ a ∧ a ≤ 901) → z.1 a y = M a y) ∧ ∀ a y, a ≠ 869 → z.2 a y = L a y) := by
    intro M1 c1 c2 c3
    refine wq_for (body := fun r z => fX17_anew_i135 fu 4095 r z.1 z.2.1 z.2.2) (fun i (w : mwM) => (sI i, w, L1)) (fun i w => (∀ k, k < i → w 901 k = sI 0) ∧ ∀ a y, a ≠ 901 → w a y = M1 a y) 8 ?_ ?_ 8 0 M1 fu (by omega) (by omega) ⟨fun k u => by omega, fun _ _ _ => rfl⟩
    · intro i w r hi ⟨q1, q2⟩ ih
      show wq (fX17_anew_i135 fu 4095 r (sI i) w L1) _
      unfold fX17_anew_i135
      rw [if_neg (by rw [sI_lle (by decide) (by omega)]; omega), mck_s (by omega) (by omega), sI_nn (by omega)]
      simp only [mlet]
      rw [sI_1]
      refine ih _ ⟨fun k u => ?_, fun a y u => by rw [mset_n (by omega)]; exact q2 a y u⟩
      by_cases hq : k = i
      · rw [hq, mset_s]; rfl
      · rw [mset_j hq]; exact q1 k (by omega)
    · intro w r ⟨q1, q2⟩
      show wq (fX17_anew_i135 fu 4095 r (sI 8) w L1) _
      unfold fX17_anew_i135
      rw [if_pos (by decide)]
      refine data w (fun a y u0 u1 u2 u3 u4 u5 u6 u7 u8 u9 => ?_) (fun m u => ?_) (fun r u => ?_) (fun k u => q1 k u)
      · rw [q2 a y u9]; exact c1 a y u1 u2 u3 u4 u5 u6 u7 u8
      · rw [q2 872 m (by omega), q2 873 m (by omega), q2 875 m (by omega)]; exact c2 m u
      · rw [q2 882 r (by omega)]; exact c3 r u
  have places : ∀ M1 : mwM, (∀ a y, a ≠ 872 → a ≠ 873 → a ≠ 874 → a ≠ 875 → a ≠ 876 → a ≠ 877 → a ≠ 879 → M1 a y = N a y) → (∀ m, m < 101 → M1 872 m = 0 ∧ M1 873 m = 0 ∧ M1 875 m = sI 0) → wq (fX17_anew_h115 fu 4095 fu (0, M1, L1)) (fun z => TfM z.1 z.2 0 tn0 tb0 o (fun _ => 0) ∧ (∀ a y, ¬ (869 ≤ a ∧ a ≤ 901) → z.1 a y = M a y) ∧ ∀ a y, a ≠ 869 → z.2 a y = L a y) := by
    intro M1 c1 c2
    refine wq_for (body := fun r z => fX17_anew_i115 fu 4095 r z.1 z.2.1 z.2.2) (fun i (w : mwM) => (sI i, w, L1)) (fun i w => (∀ k, k < i → w 882 k = sI 0) ∧ ∀ a y, a ≠ 882 → w a y = M1 a y) 4 ?_ ?_ 4 0 M1 fu (by omega) (by omega) ⟨fun k u => by omega, fun _ _ _ => rfl⟩
    · intro i w r hi ⟨q1, q2⟩ ih
      show wq (fX17_anew_i115 fu 4095 r (sI i) w L1) _
      unfold fX17_anew_i115
      rw [if_neg (by rw [sI_lle (by decide) (by omega)]; omega), mck_s (by omega) (by omega), sI_nn (by omega)]
      simp only [mlet]
      rw [sI_1]
      refine ih _ ⟨fun k u => ?_, fun a y u => by rw [mset_n (by omega)]; exact q2 a y u⟩
      by_cases hq : k = i
      · rw [hq, mset_s]; rfl
      · rw [mset_j hq]; exact q1 k (by omega)
    · intro w r ⟨q1, q2⟩
      show wq (fX17_anew_i115 fu 4095 r (sI 4) w L1) _
      unfold fX17_anew_i115
      rw [if_pos (by decide)]
      refine ends w (fun a y u1 u2 u3 u4 u5 u6 u7 u8 => ?_) (fun m u => ?_) (fun r u => q1 r u)
      · rw [q2 a y u8]; exact c1 a y u1 u2 u3 u4 u5 u6 u7
      · rw [q2 872 m (by omega), q2 873 m (by omega), q2 875 m (by omega)]; exact c2 m u
  refine wq_for (body := fun r z => fX17_anew_i52 fu 4095 r z.1 z.2.1 z.2.2) (fun i (w : mwM) => (sI i, w, L1)) (fun i w => (∀ m, m < i → w 872 m = 0 ∧ w 873 m = 0 ∧ w 875 m = sI 0) ∧ ∀ a y, a ≠ 872 → a ≠ 873 → a ≠ 874 → a ≠ 875 → a ≠ 876 → a ≠ 877 → a ≠ 879 → w a y = N a y) 101 ?_ ?_ 101 0 N fu (by omega) (by omega) ⟨fun k u => by omega, fun _ _ _ _ _ _ _ _ _ => rfl⟩
  · intro i w r hi ⟨q1, q2⟩ ih
    show wq (fX17_anew_i52 fu 4095 r (sI i) w L1) _
    unfold fX17_anew_i52
    rw [if_neg (by rw [sI_lle (by decide) (by omega)]; omega)]
    simp (disch := omega) only [mck_s, sI_nn, mlet, sI_1]
    refine ih _ ⟨fun k u => ?_, fun a y u1 u2 u3 u4 u5 u6 u7 => ?_⟩
    · by_cases hq : k = i
      · subst hq
        simp (disch := omega) only [mset_n, mset_s]
        exact ⟨rfl, trivial, rfl⟩
      · simp (disch := omega) only [mset_n]
        exact q1 k (by omega)
    · simp (disch := omega) only [mset_n]
      exact q2 a y u1 u2 u3 u4 u5 u6 u7
  · intro w r ⟨q1, q2⟩
    show wq (fX17_anew_i52 fu 4095 r (sI 101) w L1) _
    unfold fX17_anew_i52
    rw [if_pos (by decide)]
    exact places w q2 q1
/-! CODES, as both sides keep them -/
def scN (S : Nat → Nat) (key : Nat) : Nat → Nat := schL S (fun i => key + i) 160
def KnC (A : mwM) (S : Nat → Nat) (key : Nat) : Prop := A 136 key = 1 ∧ bytes A (101 + key) 176 (scN S key) ∧ bytes A (119 + key) 16 (dbS (dbS (encN S dblN (scN S key) (fun _ => 0) 10)))
def RCd (A M : mwM) (S : Nat → Nat) : Prop :=
  bytes A 98 256 S ∧ bytes A 99 256 dblN ∧ bytes M 868 256 S ∧ M 854 1 = 16 ∧ M 854 6 = 0 ∧ (∀ k, 1 ≤ k → k ≤ 16 → ∀ i, i < 16 → M 855 (16 * k + i) = sI (k + i)) ∧ ∀ key, key < 17 → A 136 key = 0 ∨ KnC A S key
theorem RCd_fr {A A' M M' : mwM} {S : Nat → Nat} (h : RCd A M S) (hA : ∀ a y, 98 ≤ a → a ≤ 136 → A' a y = A a y) (hM : ∀ a y, (a = 854 ∧ (y = 1 ∨ y = 6)) ∨ a = 855 ∨ a = 868 → M' a y = M a y) : RCd A' M' S := by
  obtain ⟨h1, h2, h3, h4, h5, h6, h7⟩ := h
  refine ⟨fun i u => ?_, fun i u => ?_, fun i u => ?_, ?_, ?_, fun k u1 u2 i u => ?_, fun key u => ?_⟩
  · rw [hA 98 i (by omega) (by omega)]; exact h1 i u
  · rw [hA 99 i (by omega) (by omega)]; exact h2 i u
  · rw [hM 868 i (by omega)]; exact h3 i u
  · rw [hM 854 1 (by omega)]; exact h4
  · rw [hM 854 6 (by omega)]; exact h5
  · rw [hM 855 _ (by omega)]; exact h6 k u1 u2 i u
  · rcases h7 key u with q | ⟨q1, q2, q3⟩
    · left
      rw [hA 136 key (by omega) (by omega)]; exact q
    · right
      refine ⟨by rw [hA 136 key (by omega) (by omega)]; exact q1, fun i w => ?_, fun i w => ?_⟩
      · rw [hA _ i (by omega) (by omega)]; exact q2 i w
      · rw [hA _ i (by omega) (by omega)]; exact q3 i w
theorem c_learn3 {fu key : Nat} {A M : mwM} {L : mwL} {S : Nat → Nat} (hf : 200 ≤ fu) (hk : key < 17) (h : RCd A M S) : wq (DX3_learn fu (sI key) A L) (fun z => z.2 = L ∧ RCd z.1 M S ∧ KnC z.1 S key ∧ (∀ k, k < 17 → KnC A S k → KnC z.1 S k) ∧ ∀ a y, ¬ (101 ≤ a ∧ a ≤ 138) → z.1 a y = A a y) := by
  obtain ⟨h1, h2, h3, h4, h5, h6, h7⟩ := h
  unfold DX3_learn fX3_learn_b26
  rw [mck_s hk (by omega), sI_nn (by omega), mck_s hk (by omega)]
  simp only [mlet]
  rw [show vp_nar .boolean 1 = 1 by decide]
  rcases h7 key hk with q | q
  · rw [if_pos q]
    refine wq_b2 (c_spread (S := S) (by omega) hk (fun i u => by rw [mset_n (by omega)]; exact h1 i u) (fun i u => by rw [mset_n (by omega)]; exact h2 i u)) ?_
    rintro M1 L1 ⟨y1, y2, y3⟩
    dsimp only at y1 y2 y3
    subst y1
    refine wq_b2 (c_second (S := S) (rk := scN S key) (by omega) hk (fun i u => by rw [y3 98 i (by omega), mset_n (by omega)]; exact h1 i u) (fun i u => by rw [y3 99 i (by omega), mset_n (by omega)]; exact h2 i u) y2) ?_
    rintro M2 L2 ⟨w1, w2, w3⟩
    dsimp only at w1 w2 w3
    subst w1
    have fr : ∀ a y, a ≠ 137 → a ≠ 138 → a ≠ 119 + key → a ≠ 101 + key → ¬ (a = 136 ∧ y = key) → M2 a y = A a y := fun a y u1 u2 u3 u4 u5 => by
      rw [w3 a y u1 u2 u3, y3 a y u4, mset_n u5]
    have kn : KnC M2 S key := by
      refine ⟨?_, fun i u => ?_, w2⟩
      · rw [w3 136 key (by omega) (by omega) (by omega), y3 136 key (by omega), mset_s]
      · rw [w3 _ i (by omega) (by omega) (by omega)]; exact y2 i u
    have oth : ∀ k, k < 17 → KnC A S k → KnC M2 S k := by
      intro k hk2 ⟨q1, q2, q3⟩
      by_cases hq : k = key
      · rw [hq]; exact kn
      · refine ⟨by rw [fr 136 k (by omega) (by omega) (by omega) (by omega) (by omega)]; exact q1, fun i u => ?_, fun i u => ?_⟩
        · rw [fr _ i (by omega) (by omega) (by omega) (by omega) (by omega)]; exact q2 i u
        · rw [fr _ i (by omega) (by omega) (by omega) (by omega) (by omega)]; exact q3 i u
    refine wq_some ⟨rfl, ⟨fun i u => ?_, fun i u => ?_, h3, h4, h5, h6, fun k u => ?_⟩, kn, oth, fun a y u => ?_⟩
    · dsimp only
      rw [fr 98 i (by omega) (by omega) (by omega) (by omega) (by omega)]; exact h1 i u
    · dsimp only
      rw [fr 99 i (by omega) (by omega) (by omega) (by omega) (by omega)]; exact h2 i u
    · dsimp only
      by_cases hq : k = key
      · rw [hq]; exact Or.inr kn
      · rcases h7 k u with z | z
        · left
          rw [fr 136 k (by omega) (by omega) (by omega) (by omega) (by omega)]; exact z
        · exact Or.inr (oth k u z)
    · exact fr a y (by omega) (by omega) (by omega) (by omega) (by omega)
  · rw [if_neg (by rw [q.1]; decide)]
    exact wq_some ⟨rfl, ⟨h1, h2, h3, h4, h5, h6, h7⟩, q, fun _ _ z => z, fun _ _ _ => rfl⟩
def sam4 (x w : Nat → Nat) : Bool := x 0 == w 0 && (x 1 == w 1 && (x 2 == w 2 && x 3 == w 3))
theorem sam4_t {x w : Nat → Nat} (h : ∀ i, i < 4 → x i = w i) : sam4 x w = true := by
  unfold sam4
  rw [h 0 (by omega), h 1 (by omega), h 2 (by omega), h 3 (by omega)]
  simp
theorem sam4_f {x w : Nat → Nat} {i : Nat} (hi : i < 4) (h : x i ≠ w i) : sam4 x w = false := by
  unfold sam4
  rcases (show i = 0 ∨ i = 1 ∨ i = 2 ∨ i = 3 by omega) with rfl | rfl | rfl | rfl <;> simp [h]
theorem c_isOut3 {fu row n1 fr : Nat} {A : mwM} {L : mwL} {x w : Nat → Nat} (hf : 10 ≤ fu) (hn : fr + 4 ≤ n1) (hn2 : n1 < 1000) (hr : ∀ i, i < 4 → A row (fr + i) = sI (x i) ∧ x i < 256) (ho : ∀ i, i < 4 → A 138 i = sI (w i) ∧ w i < 256) : DX3_isOut fu row n1 (sI fr) A L = some (bI (sam4 x w), A, L) := by
  unfold DX3_isOut
  have key : ∀ (m i f : Nat), i + m = 4 → m < f → (∀ j, j < i → x j = w j) → fX3_isOut_h2 fu row n1 (sI fr) f (sI i, A, L) = some (bI (sam4 x w), A, L) := by
    intro m
    induction m with
    | zero =>
      intro i f hi hf1 hj
      obtain ⟨g, rfl⟩ : ∃ g, f = g + 1 := ⟨f - 1, by omega⟩
      have : i = 4 := by omega
      subst this
      unfold fX3_isOut_h2
      rw [mloop_S]
      show fX3_isOut_i2 fu row n1 (sI fr) _ (sI 4) A L = _
      unfold fX3_isOut_i2
      rw [if_pos (by decide), sam4_t hj]
      rfl
    | succ m ih =>
      intro i f hi hf1 hj
      obtain ⟨g, rfl⟩ : ∃ g, f = g + 1 := ⟨f - 1, by omega⟩
      unfold fX3_isOut_h2
      rw [mloop_S]
      show fX3_isOut_i2 fu row n1 (sI fr) (fX3_isOut_h2 fu row n1 (sI fr) g) (sI i) A L = _
      unfold fX3_isOut_i2
      obtain ⟨r1, r2⟩ := hr i (by omega)
      obtain ⟨o1, o2⟩ := ho i (by omega)
      rw [if_neg (by rw [sI_lle (by decide) (by omega)]; omega), sI_add, mck_s (by omega) (by omega), mck_s (by omega) (by omega), sI_nn (by omega), sI_nn (by omega), r1, o1]
      simp only [mlet]
      rw [sI_1]
      by_cases hq : x i = w i
      · rw [if_pos (by rw [hq])]
        refine ih (i + 1) g (by omega) (by omega) (fun j u => ?_)
        by_cases hji : j = i
        · rw [hji]; exact hq
        · exact hj j (by omega)
      · rw [if_neg (by rw [sI_eq (by omega) (by omega)]; exact hq), sam4_f (show i < 4 by omega) hq]
        rfl
  exact key 4 0 fu (by omega) (by omega) (fun j u => by omega)
/-! QUESTIONS: what both sides keep of them -/
theorem RTr_fr {A A' M M' : mwM} {N E : Nat} (h : RTr A M N E) (hA : ∀ a y, 139 ≤ a → a ≤ 153 → A' a y = A a y) (hM : ∀ a y, 902 ≤ a → a ≤ 920 → ¬ (a = 902 ∧ y = 0) → M' a y = M a y) : RTr A' M' N E := by
  obtain ⟨hN, a1, a2, a3, a4, a5, a6, a7, a8, a9, a10, l, sd, ⟨b1, b2, b3, b4⟩, ⟨e1, e2, e3, t0, e4, e5, e6⟩, hF⟩ := h
  refine ⟨hN, ?_, ?_, ?_, ?_, ?_, ?_, ?_, fun k u => ?_, ?_, fun i u => ?_, l, sd, ⟨b1, b2, ?_, fun e he => ?_⟩, ⟨fun i u => ?_, e2, e3, t0, e4, ?_, e6⟩, fun i hi => ?_⟩
  · rw [hA 139 2 (by omega) (by omega)]; exact a1
  · rw [hM 902 2 (by omega) (by omega) (by omega)]; exact a2
  · rw [hM 902 1 (by omega) (by omega) (by omega)]; exact a3
  · rw [hM 902 23 (by omega) (by omega) (by omega)]; exact a4
  · rw [hA 139 4 (by omega) (by omega), hM 902 24 (by omega) (by omega) (by omega)]; exact a5
  · rw [hA 139 5 (by omega) (by omega)]; exact a6
  · rw [hM 902 25 (by omega) (by omega) (by omega)]; exact a7
  · rw [hM 920 k (by omega) (by omega) (by omega)]; exact a8 k u
  · rw [hM 902 20 (by omega) (by omega) (by omega)]; exact a9
  · obtain ⟨n, p, t, a, g, k, r, c, m⟩ := a10 i u
    exact ⟨n, p, t, a, g, k, r, cc_f c (fun b u1 u2 => hA b i (by omega) (by omega)), cm_f m (fun b u1 => hM b (i + 1) (by omega) (by omega) (by omega)) (fun b u1 => hM 908 _ (by omega) (by omega) (by omega))⟩
  · rw [hA 139 3 (by omega) (by omega)]; exact b3
  · rw [hA 153 e (by omega) (by omega)]; exact b4 e he
  · rw [hM 916 _ (by omega) (by omega) (by omega)]; exact e1 i u
  · rw [hM 902 19 (by omega) (by omega) (by omega)]; exact e5
  · rw [hA 151 i (by omega) (by omega), hA 152 i (by omega) (by omega), hM 918 _ (by omega) (by omega) (by omega), hM 918 _ (by omega) (by omega) (by omega)]
    exact hF i hi
abbrev QuC (A M : mwM) (c : Nat) : Prop := ∃ (ses w : Nat) (rig sdd : Bool), 1 ≤ ses ∧ ses < 4 ∧ w ≤ 3 ∧ A 276 c = sI ses ∧ M 934 c = sI ses ∧ A 277 c = bI rig ∧ M 935 c = bI rig ∧ A 278 c = bI sdd ∧ M 936 c = bI sdd ∧ (sdd = true → A 279 c = M 937 c) ∧ A 280 c = sI w ∧ M 938 c = sI w
def QuR (A M : mwM) : Prop := A 275 8 = M 732 108 ∧ ∀ c, c < 6 → QuC A M c
theorem QuR_fr {A A' M M' : mwM} (h : QuR A M) (hA : ∀ a y, (a = 275 ∧ y = 8) ∨ (276 ≤ a ∧ a ≤ 280) → A' a y = A a y) (hM : ∀ a y, (a = 732 ∧ y = 108) ∨ (934 ≤ a ∧ a ≤ 938) → M' a y = M a y) : QuR A' M' := by
  refine ⟨by rw [hA 275 8 (by omega), hM 732 108 (by omega)]; exact h.1, fun c u => ?_⟩
  unfold QuC
  rw [hA 276 c (by omega), hA 277 c (by omega), hA 278 c (by omega), hA 279 c (by omega), hA 280 c (by omega), hM 934 c (by omega), hM 935 c (by omega), hM 936 c (by omega), hM 937 c (by omega), hM 938 c (by omega)]
  exact h.2 c u
/-- one controller's changes -/
theorem QuR_1 {A A' M M' : mwM} {c : Nat} (h : QuR A M) (h8 : A' 275 8 = M' 732 108) (hA : ∀ a y, 276 ≤ a → a ≤ 280 → y ≠ c → A' a y = A a y) (hM : ∀ a y, 934 ≤ a → a ≤ 938 → y ≠ c → M' a y = M a y) (hc : QuC A' M' c) : QuR A' M' := by
  refine ⟨h8, fun x u => ?_⟩
  by_cases hq : x = c
  · rw [hq]; exact hc
  · unfold QuC
    rw [hA 276 x (by omega) (by omega) hq, hA 277 x (by omega) (by omega) hq, hA 278 x (by omega) (by omega) hq, hA 279 x (by omega) (by omega) hq, hA 280 x (by omega) (by omega) hq, hM 934 x (by omega) (by omega) hq, hM 935 x (by omega) (by omega) hq, hM 936 x (by omega) (by omega) hq, hM 937 x (by omega) (by omega) hq, hM 938 x (by omega) (by omega) hq]
    exact h.2 x u
def svA (A A' : mwM) : Prop := ∀ a y, ¬ ((275 ≤ a ∧ a ≤ 282) ∨ a = 137 ∨ a = 138 ∨ (a = 139 ∧ y = 3) ∨ (146 ≤ a ∧ a ≤ 150)) → A' a y = A a y
def svM (M M' : mwM) : Prop := ∀ a y, ¬ ((a = 732 ∧ (y = 102 ∨ y = 108)) ∨ (933 ≤ a ∧ a ≤ 938) ∨ a = 854 ∨ a = 858 ∨ a = 859 ∨ (863 ≤ a ∧ a ≤ 867) ∨ (902 ≤ a ∧ a ≤ 920)) → (∀ x, x < 12 → ¬ (a = 964 + 53 * x ∧ y = 0)) → M' a y = M a y
def svL (X : Nat) (Lc Lc' Lm Lm' : mwL) : Prop := (Lc' = Lc ∧ Lm' = Lm) ∨ ∃ x d w, x < X ∧ d < 32 ∧ Lc' = mset Lc (293 + 36 * x + 34) d w ∧ Lm' = mset Lm (964 + 53 * x + 21) d w
def SvB (X : Nat) (A0 : mwM) (Lc0 : mwL) (M0 : mwM) (Lm0 : mwL) (A : mwM) (Lc : mwL) (M : mwM) (Lm : mwL) : Prop := svA A0 A ∧ svM M0 M ∧ svL X Lc0 Lc Lm0 Lm
theorem svA_t {A B C : mwM} (h1 : svA A B) (h2 : svA B C) : svA A C := fun a y u => (h2 a y u).trans (h1 a y u)
theorem svM_t {A B C : mwM} (h1 : svM A B) (h2 : svM B C) : svM A C := fun a y u v => (h2 a y u v).trans (h1 a y u v)
def SvQ (X N E : Nat) (S : Nat → Nat) (A0 : mwM) (Lc0 : mwL) (M0 : mwM) (Lm0 : mwL) (oc om : Option (mwM × mwL)) : Prop :=
  ∃ (A : mwM) (Lc : mwL) (M : mwM) (Lm : mwL) (sz : Nat) (v : Nat → Nat), oc = some (A, Lc) ∧ om = some (M, Lm) ∧ SvB X A0 Lc0 M0 Lm0 A Lc M Lm ∧ QuR A M ∧ RTr A M N E ∧ RCd A M S ∧ 1 ≤ sz ∧ sz ≤ 20 ∧ A 275 7 = sI sz ∧ M 732 102 = sI sz ∧ ∀ i, i < sz → v i < 256 ∧ A 282 i = sI (v i) ∧ M 933 i = sI (v i)
theorem c_put7 {fu n : Nat} {x : Int32} {A : mwM} {L : mwL} (h : A 275 7 = sI n) (hn : n < 20) : DX7_put fu x A L = some (mset (mset A 282 n x) 275 7 (sI (n + 1)), L) := by
  unfold DX7_put fX7_put_b29
  rw [h, if_neg (by rw [sI_lle (by decide) (by omega)]; omega), mck_s hn (by omega), sI_nn (by omega)]
  simp only [mlet]
  rw [mset_n (by omega), h, sI_1]
/-- the end of an answer: no more changes -/
theorem sv_end {X N E sz : Nat} {S v : Nat → Nat} {A0 A A' M0 M M' : mwM} {Lc0 Lc Lm0 Lm : mwL} (hb : SvB X A0 Lc0 M0 Lm0 A Lc M Lm) (hQ : QuR A M) (hT : RTr A M N E) (hC : RCd A M S) (hA : ∀ a y, a ≠ 282 → ¬ (a = 275 ∧ y = 7) → A' a y = A a y) (hM : ∀ a y, a ≠ 933 → ¬ (a = 732 ∧ y = 102) → ¬ (a = 902 ∧ y = 0) → (∀ x, x < 12 → ¬ (a = 964 + 53 * x ∧ y = 0)) → M' a y = M a y) (hs : 1 ≤ sz ∧ sz ≤ 20) (h7 : A' 275 7 = sI sz) (h102 : M' 732 102 = sI sz) (hv : ∀ i, i < sz → v i < 256 ∧ A' 282 i = sI (v i) ∧ M' 933 i = sI (v i)) : SvQ X N E S A0 Lc0 M0 Lm0 (some (A', Lc)) (some (M', Lm)) := by
  refine ⟨A', Lc, M', Lm, sz, v, rfl, rfl, ⟨fun a y u => ?_, fun a y u w => ?_, hb.2.2⟩, ?_, ?_, ?_, hs.1, hs.2, h7, h102, hv⟩
  · rw [hA a y (by omega) (by omega)]; exact hb.1 a y u
  · rw [hM a y (by omega) (by omega) (by omega) w]; exact hb.2.1 a y u w
  · exact QuR_fr hQ (fun a y u => hA a y (by omega) (by omega)) (fun a y u => hM a y (by omega) (by omega) (by omega) (fun x w => by omega))
  · exact RTr_fr hT (fun a y u1 u2 => hA a y (by omega) (by omega)) (fun a y u1 u2 u3 => hM a y (by omega) (by omega) u3 (fun x w => by omega))
  · exact RCd_fr hC (fun a y u1 u2 => hA a y (by omega) (by omega)) (fun a y u => hM a y (by omega) (by omega) (by omega) (fun x w => by omega))
/-- a refusal -/
theorem st_no {fu X N E x w : Nat} {S : Nat → Nat} {A0 A M0 M : mwM} {Lc0 Lc Lm0 Lm : mwL} (hb : SvB X A0 Lc0 M0 Lm0 A Lc M Lm) (hQ : QuR A M) (hT : RTr A M N E) (hC : RCd A M S) (h7 : A 275 7 = sI 0) (hx : x < 256) (hw : w < 256) (h932 : M 932 0 = sI x) : SvQ X N E S A0 Lc0 M0 Lm0 (DX7_refuse fu (sI x) (sI w) A Lc) (DX19_no fu (sI w) M Lm) := by
  have e1 : DX7_refuse fu (sI x) (sI w) A Lc = some (mset (mset (mset (mset (mset (mset A 282 0 127) 275 7 (sI 1)) 282 1 (sI x)) 275 7 (sI 2)) 282 2 (sI w)) 275 7 (sI 3), Lc) := by
    unfold DX7_refuse
    rw [c_put7 h7 (by omega), mb2_s, c_put7 (n := 1) mset_s (by omega), mb2_s, c_put7 (n := 2) mset_s (by omega), mb2_s]
  have e2 : DX19_no fu (sI w) M Lm = some (mset (mset (mset (mset M 933 0 127) 933 1 (sI x)) 933 2 (sI w)) 732 102 3, Lm) := by
    unfold DX19_no
    simp only [mlet]
    rw [show (0 : Int32).toNatClampNeg = 0 by decide, show (1 : Int32).toNatClampNeg = 1 by decide, show (2 : Int32).toNatClampNeg = 2 by decide, mset_n (show ¬ (932 = 933 ∧ 0 = 0) by omega), h932]
  rw [e1, e2]
  refine sv_end (sz := 3) (v := fun i => if i = 0 then 127 else if i = 1 then x else w) hb hQ hT hC (fun a y u1 u2 => ?_) (fun a y u1 u2 u3 u4 => ?_) (by omega) mset_s (by rw [mset_s]; rfl) (fun i u => ?_)
  · rw [mset_n (by omega), mset_n (by omega), mset_n (by omega), mset_n (by omega), mset_n (by omega), mset_n (by omega)]
  · rw [mset_n (by omega), mset_n (by omega), mset_n (by omega), mset_n (by omega)]
  · rcases (show i = 0 ∨ i = 1 ∨ i = 2 by omega) with rfl | rfl | rfl
    · simp (disch := omega) only [mset_n, mset_s]
      exact ⟨show 127 < 256 by decide, rfl, rfl⟩
    · simp (disch := omega) only [mset_n, mset_s]
      exact ⟨hx, rfl, rfl⟩
    · simp (disch := omega) only [mset_n, mset_s]
      exact ⟨hw, rfl, rfl⟩
theorem mb2_id {o : Option (mwM × mwL)} : mb2 o (fun M L => some (M, L)) = o := by
  cases o with
  | none => rfl
  | some p => rfl
theorem SvB_0 {X : Nat} {A M : mwM} {Lc Lm : mwL} : SvB X A Lc M Lm A Lc M Lm := ⟨fun _ _ _ => rfl, fun _ _ _ _ => rfl, Or.inl ⟨rfl, rfl⟩⟩
/-- a session -/
theorem st_session {fu X N E c s : Nat} {S : Nat → Nat} {A M : mwM} {Lc Lm : mwL} (hc : c < 6) (hQ : QuR A M) (hT : RTr A M N E) (hC : RCd A M S) (h7 : A 275 7 = sI 0) (hs : s < 256) (h0 : M 932 0 = sI 16) (h1 : M 932 1 = sI s) : SvQ X N E S A Lc M Lm (DX7_openSession fu (sI c) (sI s) A Lc) (DX19_serveSession fu (sI c) M Lm) := by
  unfold DX7_openSession fX7_openSession_b10 DX19_serveSession fX19_serveSession_b20
  rw [mb2_id, mb2_id, show (1 : Int32).toNatClampNeg = 1 by decide, h1]
  by_cases a1 : s < 1
  · have b1 : sI s < 1 := by rw [sI_ltl (by omega) (by decide)]; exact a1
    rw [if_pos b1, if_pos b1]
    exact st_no (x := 16) (w := 18) SvB_0 hQ hT hC h7 (by omega) (by omega) h0
  · have b1 : ¬ sI s < 1 := by rw [sI_ltl (by omega) (by decide)]; exact a1
    rw [if_neg b1, if_neg b1]
    by_cases a2 : s ≤ 3
    · have b2 : sI s ≤ 3 := by rw [sI_lel (by omega) (by decide)]; exact a2
      rw [if_pos b2, if_pos b2]
      rw [show (0 : Int32).toNatClampNeg = 0 by decide]
      simp (disch := omega) only [mck_s, sI_nn, mlet, mset_n, h1]
      generalize hA1 : mset (mset (mset A 276 c (sI s)) 277 c (vp_nar .boolean 0)) 278 c (vp_nar .boolean 0) = A1
      have f1 : ∀ a y, ¬ (276 ≤ a ∧ a ≤ 278 ∧ y = c) → A1 a y = A a y := fun a y u => by rw [← hA1, mset_n (by omega), mset_n (by omega), mset_n (by omega)]
      have q1 : A1 276 c = sI s ∧ A1 277 c = bI false ∧ A1 278 c = bI false := by
        rw [← hA1]
        simp (disch := omega) only [mset_n, mset_s]
        exact ⟨trivial, rfl, rfl⟩
      generalize hM1 : mset (mset (mset M 934 c (sI s)) 935 c (vp_nar .boolean 0)) 936 c (vp_nar .boolean 0) = M1
      have f2 : ∀ a y, ¬ (934 ≤ a ∧ a ≤ 936 ∧ y = c) → M1 a y = M a y := fun a y u => by rw [← hM1, mset_n (by omega), mset_n (by omega), mset_n (by omega)]
      have q2 : M1 934 c = sI s ∧ M1 935 c = bI false ∧ M1 936 c = bI false := by
        rw [← hM1]
        simp (disch := omega) only [mset_n, mset_s]
        exact ⟨trivial, rfl, rfl⟩
      rw [c_put7 (n := 0) (by rw [f1 275 7 (by omega)]; exact h7) (by omega), mb2_s, c_put7 (n := 1) mset_s (by omega), mb2_s]
      refine sv_end (A := A1) (M := M1) (sz := 2) (v := fun i => if i = 0 then 80 else s) ⟨fun a y u => f1 a y (by omega), fun a y u _ => f2 a y (by omega), Or.inl ⟨rfl, rfl⟩⟩ ?_ ?_ ?_ (fun a y u1 u2 => ?_) (fun a y u1 u2 u3 u4 => ?_) (by omega) mset_s (by rw [mset_s]; rfl) (fun i u => ?_)
      · refine QuR_1 (c := c) hQ (by rw [f1 275 8 (by omega), f2 732 108 (by omega)]; exact hQ.1) (fun a y u1 u2 u3 => f1 a y (by omega)) (fun a y u1 u2 u3 => f2 a y (by omega)) ?_
        obtain ⟨ses, w, rig, sdd, k1, k2, k3, k4, k5, k6, k7, k8, k9, k10, k11, k12⟩ := hQ.2 c hc
        refine ⟨s, w, false, false, by omega, by omega, k3, q1.1, q2.1, q1.2.1, q2.2.1, q1.2.2, q2.2.2, (fun z => by cases z), ?_, ?_⟩
        · rw [f1 280 c (by omega)]; exact k11
        · rw [f2 938 c (by omega)]; exact k12
      · exact RTr_fr hT (fun a y u1 u2 => f1 a y (by omega)) (fun a y u1 u2 u3 => f2 a y (by omega))
      · exact RCd_fr hC (fun a y u1 u2 => f1 a y (by omega)) (fun a y u => f2 a y (by omega))
      · rw [mset_n (by omega), mset_n (by omega), mset_n (by omega), mset_n (by omega)]
      · rw [mset_n (by omega), mset_n (by omega), mset_n (by omega)]
      · rcases (show i = 0 ∨ i = 1 by omega) with rfl | rfl
        · simp (disch := omega) only [mset_n, mset_s]
          exact ⟨show 80 < 256 by decide, rfl, rfl⟩
        · simp (disch := omega) only [mset_n, mset_s]
          exact ⟨hs, rfl, rfl⟩
    · have b2 : ¬ sI s ≤ 3 := by rw [sI_lel (by omega) (by decide)]; exact a2
      rw [if_neg b2, if_neg b2]
      exact st_no (x := 16) (w := 18) SvB_0 hQ hT hC h7 (by omega) (by omega) h0
/-- all troubles forgotten -/
theorem st_forget {fu X N E : Nat} {S : Nat → Nat} {A M : mwM} {Lc Lm : mwL} (hf : 31 ≤ fu) (hQ : QuR A M) (hT : RTr A M N E) (hC : RCd A M S) (h7 : A 275 7 = sI 0) : SvQ X N E S A Lc M Lm (mb2 (DX10_forgetAll fu A Lc) (fun M3 L4 => mb2 (DX7_put fu 84 M3 L4) (fun M5 L6 => some (M5, L6)))) (DX19_serveClear fu M Lm) := by
  obtain ⟨A1, r, M1, e1, e2, hT1, f1, f2⟩ := st_clear (fu := fu) (L := Lc) (L2 := Lm) hf hT
  unfold DX19_serveClear
  rw [e1, e2, mb2_s, mb3_s, c_put7 (n := 0) (by rw [f1 275 7 (by omega) (by omega)]; exact h7) (by omega), mb2_s, show (0 : Int32).toNatClampNeg = 0 by decide]
  simp only [mlet]
  refine sv_end (A := A1) (M := M1) (sz := 1) (v := fun _ => 84) ⟨fun a y u => f1 a y (by omega) (by omega), fun a y u _ => f2 a y (by omega), Or.inl ⟨rfl, rfl⟩⟩ ?_ hT1 ?_ (fun a y u1 u2 => ?_) (fun a y u1 u2 u3 u4 => ?_) (by omega) mset_s (by rw [mset_s]; rfl) (fun i u => ?_)
  · exact QuR_fr hQ (fun a y u => f1 a y (by omega) (by omega)) (fun a y u => f2 a y (by omega))
  · exact RCd_fr hC (fun a y u1 u2 => f1 a y (by omega) (by omega)) (fun a y u => f2 a y (by omega))
  · rw [mset_n (by omega), mset_n (by omega)]
  · rw [mset_n (by omega), mset_n (by omega)]
  · have : i = 0 := by omega
    subst this
    simp (disch := omega) only [mset_n, mset_s]
    exact ⟨by decide, rfl, rfl⟩
/-! octets of numbers -/
def by32 (x : Int32) (k : Nat) : Nat := x.toUInt32.toNat / 2 ^ (8 * (3 - k)) % 256
def by64 (x : Int64) (k : Nat) : Nat := x.toUInt64.toNat / 2 ^ (8 * (7 - k)) % 256
theorem and255 (x : Int32) : x &&& 255 = sI (x.toUInt32.toNat % 256) := by
  apply Int32.toBitVec_inj.mp
  apply BitVec.eq_of_toNat_eq
  show x.toBitVec.toNat &&& (255 : Nat) = (BitVec.ofNat 32 (x.toUInt32.toNat % 256)).toNat
  have e : x.toUInt32.toNat = x.toBitVec.toNat := rfl
  rw [e, BitVec.toNat_ofNat, show (255 : Nat) = 2 ^ 8 - 1 by decide, Nat.and_two_pow_sub_one_eq_mod]
  omega
theorem by32_lt (x : Int32) (k : Nat) : by32 x k < 256 := Nat.mod_lt _ (by decide)
theorem by64_lt (x : Int64) (k : Nat) : by64 x k < 256 := Nat.mod_lt _ (by decide)
/-- shifts without a sign -/
theorem ush32 (x : Int32) (s : Nat) (hs : s < 32) : ((x.toUInt32 >>> ((sI s).toUInt32 &&& Int32.toUInt32 31)).toInt32) &&& 255 = sI (x.toUInt32.toNat / 2 ^ s % 256) := by
  rw [and255]
  congr 1
  have h1 : (sI s).toUInt32 &&& Int32.toUInt32 31 = UInt32.ofNat s := by
    have : ∀ s, s < 32 → (sI s).toUInt32 &&& Int32.toUInt32 31 = UInt32.ofNat s := by decide +kernel
    exact this s hs
  rw [h1]
  have h2 : ((x.toUInt32 >>> UInt32.ofNat s).toInt32).toUInt32.toNat = (x.toUInt32 >>> UInt32.ofNat s).toNat := rfl
  rw [h2, UInt32.toNat_shiftRight]
  have h3 : (UInt32.ofNat s).toNat % 32 = s := by
    rw [UInt32.toNat_ofNat']
    omega
  rw [h3, Nat.shiftRight_eq_div_pow]
/-- shifts with a sign -/
theorem ssh32 (x : Int32) (s : Nat) (hs : s ≤ 24) : (x >>> (sI s &&& 31)) &&& 255 = sI (x.toUInt32.toNat / 2 ^ s % 256) := by
  rw [and255]
  congr 1
  have h1 : (x >>> (sI s &&& 31)).toUInt32.toNat = (x.toBitVec.sshiftRight s).toNat := by
    have h0 : ∀ s, s ≤ 24 → sI s &&& 31 = sI s := by decide +kernel
    rw [h0 s hs]
    show (x >>> sI s).toBitVec.toNat = _
    rw [Int32.toBitVec_shiftRight]
    have h5 : ∀ s, s ≤ 24 → ((sI s).toBitVec.smod 32) = BitVec.ofNat 32 s := by decide +kernel
    rw [h5 s hs, BitVec.sshiftRight_eq', BitVec.toNat_ofNat, Nat.mod_eq_of_lt (by omega)]
  rw [h1]
  have e : x.toUInt32.toNat = x.toBitVec.toNat := rfl
  rw [e]
  apply Nat.eq_of_testBit_eq
  intro i
  rw [show (256 : Nat) = 2 ^ 8 by decide, Nat.testBit_mod_two_pow, Nat.testBit_mod_two_pow, Nat.testBit_div_two_pow]
  by_cases hi : i < 8
  · have h7 : (x.toBitVec.sshiftRight s).toNat.testBit i = (x.toBitVec.sshiftRight s).getLsbD i := rfl
    rw [h7, BitVec.getLsbD_sshiftRight, if_pos (show s + i < 32 by omega), decide_eq_false (show ¬ 32 ≤ i by omega)]
    have h8 : x.toBitVec.toNat.testBit (i + s) = x.toBitVec.getLsbD (i + s) := rfl
    rw [Nat.add_comm s i]
    first | rw [h8] | skip
    simp [hi]
  · simp [hi]
theorem sx32 (x : BitVec 64) : x.signExtend 32 = x.setWidth 32 := by
  apply BitVec.eq_of_getLsbD_eq
  intro i hi
  rw [BitVec.getLsbD_signExtend, BitVec.getLsbD_setWidth, if_pos (show i < 64 by omega)]
theorem ush64 (x : Int64) (s : Nat) (hs : s < 64) : (((x.toUInt64 >>> ((sI s).toInt64.toUInt64 &&& Int64.toUInt64 63)).toInt64).toInt32) &&& 255 = sI (x.toUInt64.toNat / 2 ^ s % 256) := by
  rw [and255]
  congr 1
  have h1 : (sI s).toInt64.toUInt64 &&& Int64.toUInt64 63 = UInt64.ofNat s := by
    have : ∀ s, s < 64 → (sI s).toInt64.toUInt64 &&& Int64.toUInt64 63 = UInt64.ofNat s := by decide +kernel
    exact this s hs
  rw [h1]
  have h2 : (((x.toUInt64 >>> UInt64.ofNat s).toInt64).toInt32).toUInt32.toNat = (x.toUInt64 >>> UInt64.ofNat s).toNat % 2 ^ 32 := by
    show ((x.toUInt64 >>> UInt64.ofNat s).toInt64.toInt32).toBitVec.toNat = _
    rw [Int64.toBitVec_toInt32, sx32, BitVec.toNat_setWidth]
    rfl
  rw [h2, UInt64.toNat_shiftRight]
  have h3 : (UInt64.ofNat s).toNat % 64 = s := by
    rw [UInt64.toNat_ofNat']
    omega
  rw [h3, Nat.shiftRight_eq_div_pow]
  omega
theorem ssh64 (x : Int64) (s : Nat) (hs : s ≤ 56) : ((x >>> ((sI s).toInt64 &&& 63)) &&& 255).toInt32 = sI (x.toUInt64.toNat / 2 ^ s % 256) := by
  apply Int32.toBitVec_inj.mp
  apply BitVec.eq_of_toNat_eq
  rw [Int64.toBitVec_toInt32, sx32, BitVec.toNat_setWidth]
  have h1 : (x >>> ((sI s).toInt64 &&& 63)).toBitVec = x.toBitVec.sshiftRight s := by
    have h0 : ∀ s, s ≤ 56 → (sI s).toInt64 &&& 63 = sL s := by decide +kernel
    rw [h0 s hs, Int64.toBitVec_shiftRight]
    have h5 : ∀ s, s ≤ 56 → ((sL s).toBitVec.smod 64) = BitVec.ofNat 64 s := by decide +kernel
    rw [h5 s hs, BitVec.sshiftRight_eq', BitVec.toNat_ofNat, Nat.mod_eq_of_lt (by omega)]
  show (((x >>> ((sI s).toInt64 &&& 63)).toBitVec &&& (255 : Int64).toBitVec).toNat) % 2 ^ 32 = (BitVec.ofNat 32 (x.toUInt64.toNat / 2 ^ s % 256)).toNat
  rw [h1, BitVec.toNat_and, show (255 : Int64).toBitVec.toNat = 2 ^ 8 - 1 by decide, Nat.and_two_pow_sub_one_eq_mod, BitVec.toNat_ofNat]
  have e : x.toUInt64.toNat = x.toBitVec.toNat := rfl
  rw [e]
  congr 1
  apply Nat.eq_of_testBit_eq
  intro i
  rw [show (256 : Nat) = 2 ^ 8 by decide, Nat.testBit_mod_two_pow, Nat.testBit_mod_two_pow, Nat.testBit_div_two_pow]
  by_cases hi : i < 8
  · have h7 : (x.toBitVec.sshiftRight s).toNat.testBit i = (x.toBitVec.sshiftRight s).getLsbD i := rfl
    rw [h7, BitVec.getLsbD_sshiftRight, if_pos (show s + i < 64 by omega), decide_eq_false (show ¬ 64 ≤ i by omega)]
    have h8 : x.toBitVec.toNat.testBit (i + s) = x.toBitVec.getLsbD (i + s) := rfl
    rw [Nat.add_comm s i]
    first | rw [h8] | skip
    simp [hi]
  · simp [hi]
/-- a row of octets into a number -/
theorem shl_or (v : Int64) (q : Nat) (hq : q < 256) : (v <<< ((8 : Int32).toInt64 &&& 63)) ||| (sI q).toInt64 = v * 256 + (sI q).toInt64 := by
  rw [sI_L (by omega)]
  apply Int64.toBitVec_inj.mp
  have h8 : (v <<< ((8 : Int32).toInt64 &&& 63)).toBitVec = v.toBitVec <<< 8 := by
    rw [show (8 : Int32).toInt64 &&& 63 = sL 8 by decide, Int64.toBitVec_shiftLeft]
    have : (sL 8).toBitVec.smod 64 = BitVec.ofNat 64 8 := by decide +kernel
    rw [this]
    rfl
  show (v <<< ((8 : Int32).toInt64 &&& 63)).toBitVec ||| (sL q).toBitVec = v.toBitVec * (256 : Int64).toBitVec + (sL q).toBitVec
  rw [h8]
  have hm : v.toBitVec * (256 : Int64).toBitVec = v.toBitVec <<< 8 := by
    rw [BitVec.shiftLeft_eq_mul_twoPow]
    congr 1
  have hs : (sL q).toBitVec = BitVec.ofNat 64 q := rfl
  rw [hm, hs, BitVec.add_eq_or_of_and_eq_zero]
  apply BitVec.eq_of_getLsbD_eq
  intro i hi
  rw [BitVec.getLsbD_and, BitVec.getLsbD_shiftLeft, BitVec.getLsbD_ofNat, BitVec.getLsbD_zero]
  by_cases h : i < 8
  · simp [h]
  · have : q.testBit i = false := Nat.testBit_lt_two_pow (Nat.lt_of_lt_of_le hq (by
      have := Nat.pow_le_pow_right (show 0 < 2 by omega) (show 8 ≤ i by omega)
      exact this))
    simp [this]
/-- the seeds -/
theorem seed_eq (s : Int32) : ((2654435761 * s.toInt64) &&& 4294967295).toInt32 = (-1640531535) * s := by
  apply Int32.toBitVec_inj.mp
  rw [Int64.toBitVec_toInt32, sx32]
  show ((2654435761 : Int64).toBitVec * s.toInt64.toBitVec &&& (4294967295 : Int64).toBitVec).setWidth 32 = (-1640531535 : Int32).toBitVec * s.toBitVec
  rw [BitVec.setWidth_and, BitVec.setWidth_mul _ _ (by omega), Int32.toBitVec_toInt64]
  have h1 : ((4294967295 : Int64).toBitVec).setWidth 32 = BitVec.allOnes 32 := by decide +kernel
  have h2 : ((2654435761 : Int64).toBitVec).setWidth 32 = (-1640531535 : Int32).toBitVec := by decide +kernel
  have h3 : (BitVec.signExtend 64 s.toBitVec).setWidth 32 = s.toBitVec := by
    apply BitVec.eq_of_getLsbD_eq
    intro i hi
    rw [BitVec.getLsbD_setWidth, BitVec.getLsbD_signExtend]
    simp [hi]
    omega
  rw [h1, h2, h3, BitVec.and_allOnes]
/-! questions: data of charts -/
def ChO (A M : mwM) (X : Nat) (own : Nat → Nat) : Prop := X ≤ 12 ∧ M 732 33 = sI X ∧ (∀ x, x < X → own x < 6 ∧ A (293 + 36 * x) 5 = sI (own x) ∧ ∃ t, t < 12 ∧ M 749 x = sI t ∧ M 742 t = sI (own x)) ∧ ∀ x, X ≤ x → x < 12 → A (293 + 36 * x) 5 = -1
def DtR (Lc Lm : mwL) (X : Nat) : Prop := ∀ x, x < X → ∀ d, d < 32 → Lc (293 + 36 * x + 34) d = Lm (964 + 53 * x + 21) d
def hasB (X : Nat) (own : Nat → Nat) (c q1 q2 : Nat) : Bool := decide (1 ≤ q1 ∧ q1 ≤ X ∧ own (q1 - 1) = c ∧ q2 < 32)
theorem sI_m1n {k : Nat} (h : k < 2000000000) : ¬ (-1 : Int32) = sI k := by
  intro z
  have := congrArg Int32.toInt z
  rw [sI_toInt h] at this
  have h2 : (-1 : Int32).toInt = -1 := by decide
  omega
theorem st_there {fu X c q1 q2 : Nat} {own : Nat → Nat} {A M : mwM} {Lc Lm : mwL} (h : ChO A M X own) (hc : c < 6) (h1 : q1 < 256) (h2 : q2 < 256) (m1 : M 932 1 = sI q1) (m2 : M 932 2 = sI q2) : DX7_hasDatum fu (sI c) (sI q1) (sI q2) A Lc = some (bI (hasB X own c q1 q2), A, Lc) ∧ DX19_isThere fu (sI c) M Lm = some (bI (hasB X own c q1 q2), M, Lm) := by
  obtain ⟨hX, h33, hin, hout⟩ := h
  have t0 : ∀ (A : mwM) (L : mwL), mzz (0 : Int32) (some ((0 : Int32), A, L)) = some (bI false, A, L) := fun A L => by
    unfold mzz
    rw [if_pos (Or.inl rfl)]
    rfl
  have t1 : ∀ (A : mwM) (L : mwL), mzz (1 : Int32) (some ((1 : Int32), A, L)) = some (bI true, A, L) := fun A L => by
    unfold mzz
    rw [if_pos (Or.inr rfl)]
    rfl
  unfold DX7_hasDatum fX7_hasDatum_b33 fX7_hasDatum_b34 DX19_isThere fX19_isThere_b60 fX19_isThere_b61
  rw [t0, t1, t0, t1, show (1 : Int32).toNatClampNeg = 1 by decide, show (2 : Int32).toNatClampNeg = 2 by decide, m1, m2, h33]
  by_cases a1 : q1 < 1
  · have b1 : sI q1 < 1 := by rw [sI_ltl (by omega) (by decide)]; exact a1
    have hb : hasB X own c q1 q2 = false := decide_eq_false (by omega)
    rw [if_pos b1, if_pos b1, hb]
    exact ⟨rfl, rfl⟩
  · have b1 : ¬ sI q1 < 1 := by rw [sI_ltl (by omega) (by decide)]; exact a1
    rw [if_neg b1, if_neg b1, show sI q1 - 1 = sI (q1 - 1) from sI_sub (b := 1) (by omega)]
    by_cases a2 : X < q1
    · have hb : hasB X own c q1 q2 = false := decide_eq_false (by omega)
      rw [if_pos (show sI X < sI q1 by rw [sI_lt (by omega) (by omega)]; exact a2), hb]
      refine ⟨?_, rfl⟩
      by_cases a3 : 12 < q1
      · rw [if_pos (show 12 < sI q1 by rw [sI_llt (by decide) (by omega)]; exact a3)]
      · rw [if_neg (show ¬ 12 < sI q1 by rw [sI_llt (by decide) (by omega)]; exact a3), mck_s (by omega) (by omega), sI_nn (by omega), Nat.add_zero, hout (q1 - 1) (by omega) (by omega), if_neg (sI_m1n (by omega))]
    · have hx := hin (q1 - 1) (by omega)
      obtain ⟨o1, o2, t, o3, o4, o5⟩ := hx
      rw [if_neg (show ¬ sI X < sI q1 by rw [sI_lt (by omega) (by omega)]; exact a2), if_neg (show ¬ 12 < sI q1 by rw [sI_llt (by decide) (by omega)]; omega), mck_s (by omega) (by omega), mck_s (by omega) (by omega), sI_nn (by omega), Nat.add_zero, o2, o4, mck_s (by omega) (by omega), sI_nn (by omega), o5]
      by_cases a3 : own (q1 - 1) = c
      · have b3 : sI (own (q1 - 1)) = sI c := by rw [a3]
        rw [if_pos b3, if_pos b3]
        by_cases a4 : q2 < 32
        · have b4 : ¬ 32 ≤ sI q2 := by rw [sI_lle (by decide) (by omega)]; omega
          have hb : hasB X own c q1 q2 = true := decide_eq_true (by omega)
          rw [if_neg b4, if_neg b4, hb]
          exact ⟨rfl, rfl⟩
        · have b4 : 32 ≤ sI q2 := by rw [sI_lle (by decide) (by omega)]; omega
          have hb : hasB X own c q1 q2 = false := decide_eq_false (by omega)
          rw [if_pos b4, if_pos b4, hb]
          exact ⟨rfl, rfl⟩
      · have b3 : ¬ sI (own (q1 - 1)) = sI c := by rw [sI_eq (by omega) (by omega)]; exact a3
        have hb : hasB X own c q1 q2 = false := decide_eq_false (by omega)
        rw [if_neg b3, if_neg b3, hb]
        exact ⟨rfl, rfl⟩
def k56 (i : Nat) : Int32 := 56 - 8 * sI i
theorem k56_1 : ∀ i, i < 8 → k56 i = sI (56 - 8 * i) ∧ k56 i + (-8) = k56 (i + 1) ∧ ¬ k56 i < 0 := by decide +kernel
theorem k56_8 : k56 8 < 0 := by decide +kernel
theorem k7_1 : ∀ i, i < 8 → (8 : Int32) * (7 - sI i) = sI (56 - 8 * i) := by decide +kernel
theorem wq_ex {o : Option (mwM × mwL)} {Q : mwM × mwL → Prop} (h : wq o Q) : ∃ A L, o = some (A, L) ∧ Q (A, L) := by
  obtain ⟨⟨A, L⟩, e, q⟩ := h
  exact ⟨A, L, e, q⟩
theorem st_read {fu X N E c q1 q2 : Nat} {own : Nat → Nat} {S : Nat → Nat} {A M : mwM} {Lc Lm : mwL} (hf : 20 ≤ fu) (hc : c < 6) (hQ : QuR A M) (hT : RTr A M N E) (hC : RCd A M S) (hO : ChO A M X own) (hD : DtR Lc Lm X) (h7 : A 275 7 = sI 0) (h1 : q1 < 256) (h2 : q2 < 256) (m0 : M 932 0 = sI 34) (m1 : M 932 1 = sI q1) (m2 : M 932 2 = sI q2) : SvQ X N E S A Lc M Lm (DX7_readDatum fu (sI c) (sI q1) (sI q2) A Lc) (DX19_serveRead fu (sI c) M Lm) := by
  obtain ⟨e1, e2⟩ := st_there (fu := fu) (Lc := Lc) (Lm := Lm) hO hc h1 h2 m1 m2
  unfold DX7_readDatum DX19_serveRead
  rw [e1, e2, mb3_s, mb3_s, mb2_id, mb2_id]
  cases hb : hasB X own c q1 q2 with
  | false =>
    rw [if_pos (show bI false = 0 from rfl), if_pos (show bI false = 0 from rfl)]
    exact st_no (x := 34) (w := 49) SvB_0 hQ hT hC h7 (by omega) (by omega) m0
  | true =>
    have hx := of_decide_eq_true hb
    have h12 := hO.1
    rw [if_neg (show ¬ bI true = 0 by decide), if_neg (show ¬ bI true = 0 by decide), show (0 : Int32).toNatClampNeg = 0 by decide, show (1 : Int32).toNatClampNeg = 1 by decide, show (2 : Int32).toNatClampNeg = 2 by decide, m1, m2, show sI q1 - 1 = sI (q1 - 1) from sI_sub (b := 1) (by omega), mck_s (by omega) (by omega), sI_nn (by omega)]
    have hd := hD (q1 - 1) (by omega) q2 hx.2.2.2
    generalize hw : Lc (293 + 36 * (q1 - 1) + 34) q2 = w at *
    have ev : DX13_value fu (964 + 53 * (q1 - 1)) (sI q2) M Lm = some (w, mset M (964 + 53 * (q1 - 1)) 0 0, Lm) := by
      unfold DX13_value fX13_value_b25
      simp only [mlet]
      rw [if_neg (by rw [sI_ltl (by omega) (by decide)]; omega), if_pos (by rw [sI_lel (by omega) (by decide)]; omega), mck_s (by omega) (by omega), sI_nn (by omega), ← hd]
    rw [ev, mb3_s, c_put7 h7 (by omega), mb2_s, c_put7 (n := 1) mset_s (by omega), mb2_s, c_put7 (n := 2) mset_s (by omega), mb2_s]
    simp only [mlet]
    rw [mset_n (show ¬ (932 = 933 ∧ 1 = 0) by omega), mset_n (show ¬ (932 = 964 + 53 * (q1 - 1) ∧ 1 = 0) by omega), m1, mset_n (show ¬ (932 = 933 ∧ 2 = 1) by omega), mset_n (show ¬ (932 = 933 ∧ 2 = 0) by omega), mset_n (show ¬ (932 = 964 + 53 * (q1 - 1) ∧ 2 = 0) by omega), m2]
    generalize hA1 : mset (mset (mset (mset (mset (mset A 282 0 98) 275 7 (sI (0 + 1))) 282 1 (sI q1)) 275 7 (sI (1 + 1))) 282 2 (sI q2)) 275 7 (sI (2 + 1)) = A1
    have f1 : ∀ a y, a ≠ 282 → ¬ (a = 275 ∧ y = 7) → A1 a y = A a y := fun a y u1 u2 => by
      rw [← hA1]
      simp (disch := omega) only [mset_n]
    have g1 : A1 275 7 = sI 3 ∧ A1 282 0 = sI 98 ∧ A1 282 1 = sI q1 ∧ A1 282 2 = sI q2 := by
      rw [← hA1]
      simp (disch := omega) only [mset_n, mset_s]
      exact ⟨by first | trivial | rfl, by first | trivial | rfl, by first | trivial | rfl, by first | trivial | rfl⟩
    generalize hM1 : mset (mset (mset (mset M (964 + 53 * (q1 - 1)) 0 0) 933 0 98) 933 1 (sI q1)) 933 2 (sI q2) = M1
    have f2 : ∀ a y, a ≠ 933 → (∀ x, x < 12 → ¬ (a = 964 + 53 * x ∧ y = 0)) → M1 a y = M a y := fun a y u1 u2 => by
      have := u2 (q1 - 1) (by omega)
      rw [← hM1]
      simp (disch := omega) only [mset_n]
    have g2 : M1 933 0 = sI 98 ∧ M1 933 1 = sI q1 ∧ M1 933 2 = sI q2 := by
      rw [← hM1]
      simp (disch := omega) only [mset_n, mset_s]
      exact ⟨rfl, trivial, trivial⟩
    -- the class's octets
    have cl : wq (fX7_readDatum_h41 fu (sI c) (sI q1) (sI q2) fu (56, A1, Lc)) (fun z => z.2 = Lc ∧ z.1 275 7 = sI 11 ∧ (∀ i, i < 8 → z.1 282 (3 + i) = sI (by64 w i)) ∧ (∀ i, i < 3 → z.1 282 i = A1 282 i) ∧ ∀ a y, a ≠ 282 → ¬ (a = 275 ∧ y = 7) → z.1 a y = A1 a y) := by
      refine wq_for (body := fun r z => fX7_readDatum_i41 fu (sI c) (sI q1) (sI q2) r z.1 z.2.1 z.2.2) (fun i (x : mwM) => (k56 i, x, Lc)) (fun i x => x 275 7 = sI (3 + i) ∧ (∀ j, j < i → x 282 (3 + j) = sI (by64 w j)) ∧ (∀ j, j < 3 → x 282 j = A1 282 j) ∧ ∀ a y, a ≠ 282 → ¬ (a = 275 ∧ y = 7) → x a y = A1 a y) 8 ?_ ?_ 8 0 A1 fu (by omega) (by omega) ⟨g1.1, fun j u => by omega, fun _ _ => rfl, fun _ _ _ _ => rfl⟩
      · intro i x r hi ⟨x1, x2, x3, x4⟩ ih
        show wq (fX7_readDatum_i41 fu (sI c) (sI q1) (sI q2) r (k56 i) x Lc) _
        obtain ⟨k1, k2, k3⟩ := k56_1 i hi
        unfold fX7_readDatum_i41
        rw [if_neg k3, show sI q1 - 1 = sI (q1 - 1) from sI_sub (b := 1) (by omega), mck_s (by omega) (by omega), mck_s hx.2.2.2 (by omega), sI_nn (by omega), sI_nn (by omega), hw, k2, k1, ush64 w _ (by omega), c_put7 x1 (by omega), mb2_s]
        simp only [mlet]
        refine ih _ ⟨by rw [mset_s]; rfl, fun j u => ?_, fun j u => ?_, fun a y u1 u2 => ?_⟩
        · rw [mset_n (by omega)]
          by_cases hq : j = i
          · rw [hq, mset_s]
            unfold by64
            rw [show 8 * (7 - i) = 56 - 8 * i by omega]
          · rw [mset_n (by omega)]; exact x2 j (by omega)
        · rw [mset_n (by omega), mset_n (by omega)]; exact x3 j u
        · rw [mset_n (by omega), mset_n (by omega)]; exact x4 a y u1 u2
      · intro x r ⟨x1, x2, x3, x4⟩
        show wq (fX7_readDatum_i41 fu (sI c) (sI q1) (sI q2) r (k56 8) x Lc) _
        unfold fX7_readDatum_i41
        rw [if_pos k56_8]
        exact wq_some ⟨rfl, x1, x2, x3, x4⟩
    have mo : wq (fX19_serveRead_h73 fu (sI c) fu (w, 0, M1, Lm)) (fun z => z.2 = Lm ∧ z.1 732 102 = sI 11 ∧ (∀ i, i < 8 → z.1 933 (3 + i) = sI (by64 w i)) ∧ (∀ i, i < 3 → z.1 933 i = M1 933 i) ∧ ∀ a y, a ≠ 933 → ¬ (a = 732 ∧ y = 102) → z.1 a y = M1 a y) := by
      refine wq_for (body := fun r z => fX19_serveRead_i73 fu (sI c) r z.1 z.2.1 z.2.2.1 z.2.2.2) (fun i (x : mwM) => (w, sI i, x, Lm)) (fun i x => (∀ j, j < i → x 933 (3 + j) = sI (by64 w j)) ∧ (∀ j, j < 3 → x 933 j = M1 933 j) ∧ ∀ a y, a ≠ 933 → x a y = M1 a y) 8 ?_ ?_ 8 0 M1 fu (by omega) (by omega) ⟨fun j u => by omega, fun _ _ => rfl, fun _ _ _ => rfl⟩
      · intro i x r hi ⟨x2, x3, x4⟩ ih
        show wq (fX19_serveRead_i73 fu (sI c) r w (sI i) x Lm) _
        unfold fX19_serveRead_i73
        rw [if_neg (by rw [sI_lle (by decide) (by omega)]; omega), show (3 : Int32) + sI i = sI (3 + i) from sI_lad, mck_s (by omega) (by omega), sI_nn (by omega), k7_1 i hi, ssh64 w _ (by omega)]
        simp only [mlet]
        rw [sI_1]
        refine ih _ ⟨fun j u => ?_, fun j u => ?_, fun a y u1 => ?_⟩
        · by_cases hq : j = i
          · rw [hq, mset_s]
            unfold by64
            rw [show 8 * (7 - i) = 56 - 8 * i by omega]
          · rw [mset_n (by omega)]; exact x2 j (by omega)
        · rw [mset_n (by omega)]; exact x3 j u
        · rw [mset_n (by omega)]; exact x4 a y u1
      · intro x r ⟨x2, x3, x4⟩
        show wq (fX19_serveRead_i73 fu (sI c) r w (sI 8) x Lm) _
        unfold fX19_serveRead_i73
        rw [if_pos (by decide)]
        simp only [mlet]
        refine wq_some ⟨rfl, by dsimp only; rw [mset_s]; rfl, fun i u => ?_, fun i u => ?_, fun a y u1 u2 => ?_⟩
        · dsimp only
          rw [mset_n (by omega)]; exact x2 i u
        · dsimp only
          rw [mset_n (by omega)]; exact x3 i u
        · dsimp only
          rw [mset_n u2]; exact x4 a y u1
    obtain ⟨A2, L2, ea, b1, b2, b3, b4, b5⟩ := wq_ex cl
    obtain ⟨M2, L3, em, d1, d2, d3, d4, d5⟩ := wq_ex mo
    dsimp only at b1 b2 b3 b4 b5 d1 d2 d3 d4 d5
    subst b1
    subst d1
    rw [ea, em]
    refine sv_end (A := A) (M := M) (sz := 11) (v := fun i => if i = 0 then 98 else if i = 1 then q1 else if i = 2 then q2 else by64 w (i - 3)) SvB_0 hQ hT hC (fun a y u1 u2 => by rw [b5 a y u1 u2]; exact f1 a y u1 u2) (fun a y u1 u2 u3 u4 => by rw [d5 a y u1 u2]; exact f2 a y u1 u4) (by omega) b2 d2 (fun i u => ?_)
    by_cases i0 : i = 0
    · subst i0
      rw [b4 0 (by omega), d4 0 (by omega), g1.2.1, g2.1]
      exact ⟨show 98 < 256 by decide, rfl, rfl⟩
    · by_cases i1 : i = 1
      · subst i1
        rw [b4 1 (by omega), d4 1 (by omega), g1.2.2.1, g2.2.1]
        exact ⟨h1, rfl, rfl⟩
      · by_cases i2 : i = 2
        · subst i2
          rw [b4 2 (by omega), d4 2 (by omega), g1.2.2.2, g2.2.2]
          exact ⟨h2, rfl, rfl⟩
        · rw [if_neg i0, if_neg i1, if_neg i2]
          have a1 := b3 (i - 3) (by omega)
          have a2 := d3 (i - 3) (by omega)
          rw [show 3 + (i - 3) = i by omega] at a1 a2
          exact ⟨by64_lt _ _, a1, a2⟩
theorem st_write {fu X N E c q1 q2 row : Nat} {own : Nat → Nat} {S : Nat → Nat} {A M : mwM} {Lc Lm : mwL} {o : Nat → Nat} (hf : 20 ≤ fu) (hc : c < 6) (hQ : QuR A M) (hT : RTr A M N E) (hC : RCd A M S) (hO : ChO A M X own) (h7 : A 275 7 = sI 0) (hrow : row < 275) (ho : ∀ i, i < 11 → A row i = sI (o i) ∧ M 932 i = sI (o i) ∧ o i < 256) (o0 : o 0 = 46) (o1 : o 1 = q1) (o2 : o 2 = q2) : SvQ X N E S A Lc M Lm (DX7_writeDatum fu (sI c) row 100 A Lc) (DX19_serveWrite fu (sI c) M Lm) := by
  have p0 := ho 0 (by omega)
  have p1 := ho 1 (by omega)
  have p2 := ho 2 (by omega)
  rw [o0] at p0
  rw [o1] at p1
  rw [o2] at p2
  obtain ⟨e1, e2⟩ := st_there (fu := fu) (Lc := Lc) (Lm := Lm) hO hc p1.2.2 p2.2.2 p1.2.1 p2.2.1
  obtain ⟨ses, w, rig, sdd, k1, k2, k3, k4, k5, k6, k7, k8, k9, k10, k11, k12⟩ := hQ.2 c hc
  unfold DX7_writeDatum DX19_serveWrite fX19_serveWrite_b17 fX19_serveWrite_b34
  simp only [mb2_id]
  rw [mck_s hc (by omega), mck_s hc (by omega), sI_nn (by omega), k6, k7, mck_s hc (by omega), mck_in (show vp_in 1 100 from sI_in (k := 1) (by omega) (by omega)), mck_in (show vp_in 2 100 from sI_in (k := 2) (by omega) (by omega)), show (1 : Int32).toNatClampNeg = 1 by decide, show (2 : Int32).toNatClampNeg = 2 by decide, p1.1, p2.1, e1, e2, mb3_s, mb3_s]
  cases hr : rig with
  | false =>
    rw [hr] at k6 k7
    rw [if_pos (show bI false = 0 from rfl), if_pos (show bI false = 0 from rfl), if_pos (show bI false = 0 from rfl)]
    exact st_no (x := 46) (w := 51) SvB_0 hQ hT hC h7 (by omega) (by omega) p0.2.1
  | true =>
    rw [hr] at k6 k7
    rw [if_neg (show ¬ bI true = 0 by decide), if_neg (show ¬ bI true = 0 by decide)]
    cases hb : hasB X own c q1 q2 with
    | false =>
      rw [if_pos (show bI false = 0 from rfl), if_pos (show bI false = 0 from rfl), mck_s hc (by omega), k7, if_neg (show ¬ bI true = 0 by decide)]
      exact st_no (x := 46) (w := 49) SvB_0 hQ hT hC h7 (by omega) (by omega) p0.2.1
    | true =>
      have hx := of_decide_eq_true hb
      have h12 := hO.1
      rw [if_neg (show ¬ bI true = 0 by decide), if_neg (show ¬ bI true = 0 by decide)]
      -- both numbers
      have both : ∀ (m i : Nat) (v : Int64) (f g : Nat), i + m = 8 → m < f → m < g → ∃ v', fX7_writeDatum_h47 fu (sI c) row 100 f (v, sI i, A, Lc) = some (mset (mset (mset (mset (mset (mset A 282 0 110) 275 7 (sI 1)) 282 1 (sI q1)) 275 7 (sI 2)) 282 2 (sI q2)) 275 7 (sI 3), mset Lc (293 + 36 * (q1 - 1) + 34) q2 v') ∧ fX19_serveWrite_h43 fu (sI c) g (v, sI i, M, Lm) = some (mset (mset (mset (mset M 933 0 110) 933 1 (sI q1)) 933 2 (sI q2)) 732 102 3, mset Lm (964 + 53 * (q1 - 1) + 21) q2 v') := by
        intro m
        induction m with
        | zero =>
          intro i v f g hi hf1 hg1
          obtain ⟨f', rfl⟩ : ∃ f', f = f' + 1 := ⟨f - 1, by omega⟩
          obtain ⟨g', rfl⟩ : ∃ g', g = g' + 1 := ⟨g - 1, by omega⟩
          have : i = 8 := by omega
          subst this
          refine ⟨v, ?_, ?_⟩
          · unfold fX7_writeDatum_h47
            rw [mloop_S]
            show fX7_writeDatum_i47 fu (sI c) row 100 _ v (sI 8) A Lc = _
            unfold fX7_writeDatum_i47
            rw [if_pos (by decide), mck_in (show vp_in 1 100 from sI_in (k := 1) (by omega) (by omega)), mck_in (show vp_in 2 100 from sI_in (k := 2) (by omega) (by omega)), show (1 : Int32).toNatClampNeg = 1 by decide, show (2 : Int32).toNatClampNeg = 2 by decide, p1.1, p2.1, show sI q1 - 1 = sI (q1 - 1) from sI_sub (b := 1) (by omega), mck_s (by omega) (by omega), mck_s hx.2.2.2 (by omega), sI_nn (by omega), sI_nn (by omega)]
            simp only [mlet]
            rw [c_put7 h7 (by omega), mb2_s, mck_in (show vp_in 1 100 from sI_in (k := 1) (by omega) (by omega)), mset_n (show ¬ (row = 275 ∧ 1 = 7) by omega), mset_n (show ¬ (row = 282 ∧ 1 = 0) by omega), p1.1, c_put7 (n := 1) mset_s (by omega), mb2_s, mck_in (show vp_in 2 100 from sI_in (k := 2) (by omega) (by omega)), mset_n (show ¬ (row = 275 ∧ 2 = 7) by omega), mset_n (show ¬ (row = 282 ∧ 2 = 1) by omega), mset_n (show ¬ (row = 275 ∧ 2 = 7) by omega), mset_n (show ¬ (row = 282 ∧ 2 = 0) by omega), p2.1, c_put7 (n := 2) mset_s (by omega), mb2_s]
          · unfold fX19_serveWrite_h43
            rw [mloop_S]
            show fX19_serveWrite_i43 fu (sI c) _ v (sI 8) M Lm = _
            unfold fX19_serveWrite_i43 DX13_put
            rw [if_pos (by decide), show (0 : Int32).toNatClampNeg = 0 by decide, show (1 : Int32).toNatClampNeg = 1 by decide, show (2 : Int32).toNatClampNeg = 2 by decide, p1.2.1, p2.2.1, show sI q1 - 1 = sI (q1 - 1) from sI_sub (b := 1) (by omega), mck_s (by omega) (by omega), mck_s hx.2.2.2 (by omega), sI_nn (by omega), sI_nn (by omega)]
            simp only [mlet]
            rw [mb2_s]
            rw [mset_n (show ¬ (932 = 933 ∧ 1 = 0) by omega), p1.2.1, mset_n (show ¬ (932 = 933 ∧ 2 = 1) by omega), mset_n (show ¬ (932 = 933 ∧ 2 = 0) by omega), p2.2.1]
        | succ m ih =>
          intro i v f g hi hf1 hg1
          obtain ⟨f', rfl⟩ : ∃ f', f = f' + 1 := ⟨f - 1, by omega⟩
          obtain ⟨g', rfl⟩ : ∃ g', g = g' + 1 := ⟨g - 1, by omega⟩
          have pi := ho (3 + i) (by omega)
          obtain ⟨v', r1, r2⟩ := ih (i + 1) (v * 256 + (sI (o (3 + i))).toInt64) f' g' (by omega) (by omega) (by omega)
          refine ⟨v', ?_, ?_⟩
          · unfold fX7_writeDatum_h47
            rw [mloop_S]
            show fX7_writeDatum_i47 fu (sI c) row 100 (fX7_writeDatum_h47 fu (sI c) row 100 f') v (sI i) A Lc = _
            unfold fX7_writeDatum_i47
            rw [if_neg (by rw [sI_lle (by decide) (by omega)]; omega), show (3 : Int32) + sI i = sI (3 + i) from sI_lad, mck_s (by omega) (by omega), sI_nn (by omega), pi.1]
            simp only [mlet]
            rw [shl_or _ _ pi.2.2, sI_1]
            exact r1
          · unfold fX19_serveWrite_h43
            rw [mloop_S]
            show fX19_serveWrite_i43 fu (sI c) (fX19_serveWrite_h43 fu (sI c) g') v (sI i) M Lm = _
            unfold fX19_serveWrite_i43
            rw [if_neg (by rw [sI_lle (by decide) (by omega)]; omega), show (3 : Int32) + sI i = sI (3 + i) from sI_lad, mck_s (by omega) (by omega), sI_nn (by omega), pi.2.1]
            simp only [mlet]
            rw [sI_1]
            exact r2
      obtain ⟨v', r1, r2⟩ := both 8 0 0 fu fu (by omega) (by omega) (by omega)
      have r1' : fX7_writeDatum_h47 fu (sI c) row 100 fu (0, 0, A, Lc) = _ := r1
      have r2' : fX19_serveWrite_h43 fu (sI c) fu (0, 0, M, Lm) = _ := r2
      rw [r1', r2']
      refine sv_end (A := A) (M := M) (sz := 3) (v := fun i => if i = 0 then 110 else if i = 1 then q1 else q2) ⟨fun _ _ _ => rfl, fun _ _ _ _ => rfl, Or.inr ⟨q1 - 1, q2, v', by omega, hx.2.2.2, rfl, rfl⟩⟩ hQ hT hC (fun a y u1 u2 => ?_) (fun a y u1 u2 u3 u4 => ?_) (by omega) mset_s (by rw [mset_s]; rfl) (fun i u => ?_)
      · simp (disch := omega) only [mset_n]
      · simp (disch := omega) only [mset_n]
      · rcases (show i = 0 ∨ i = 1 ∨ i = 2 by omega) with rfl | rfl | rfl
        · simp (disch := omega) only [mset_n, mset_s]
          exact ⟨show 110 < 256 by decide, rfl, rfl⟩
        · simp (disch := omega) only [mset_n, mset_s]
          exact ⟨p1.2.2, rfl, rfl⟩
        · simp (disch := omega) only [mset_n, mset_s]
          exact ⟨p2.2.2, rfl, rfl⟩
/-! questions: the list of troubles, seeds -/
theorem st_list {fu X N E : Nat} {S : Nat → Nat} {A M : mwM} {Lc Lm : mwL} (hf : 31 ≤ fu) (hE : E < 900000000) (hQ : QuR A M) (hT : RTr A M N E) (hC : RCd A M S) (h7 : A 275 7 = sI 0) : SvQ X N E S A Lc M Lm (DX7_listTroubles fu A Lc) (DX19_serveTroubles fu M Lm) := by
  have hT0 := hT
  obtain ⟨hN, a1, a2, a3, a4, a5, a6, a7, a8, _, a10, l, sd, ⟨b1, b2, b3, b4⟩, ⟨e1, e2, e3, t0, e4, e5, e6⟩, hF⟩ := hT
  obtain ⟨lk, hlk⟩ : ∃ lk : Nat → Nat, ∀ j (h : j < l.length), lk j = l[j] := ⟨fun j => if h : j < l.length then l[j] else 0, fun j h => dif_pos h⟩
  obtain ⟨n, hn⟩ : ∃ n, n = l.length := ⟨_, rfl⟩
  have hn8 : n ≤ 8 := by omega
  have lN : ∀ j, j < n → lk j < N := fun j h => by rw [hlk j (by omega)]; exact b2 _ (List.getElem_mem (by omega))
  have b5 : ∀ j, j < n → A 153 j = sI (lk j) := fun j h => by rw [hlk j (by omega)]; exact b4 j (by omega)
  rw [← hn] at b3
  obtain ⟨st, hst⟩ : ∃ st : Nat → Nat, ∀ i, i < N → st i < 256 ∧ A 146 i = sI (st i) := ⟨fun i => (A 146 i).toNatClampNeg, fun i hi => by
    obtain ⟨k, q1, q2, _⟩ := st_status (fu := fu) (L := Lc) (L2 := Lm) hf hi hT0
    dsimp only
    rw [q2, sI_nn (by omega)]
    exact ⟨q1, rfl⟩⟩
  have hsd : ∀ x, x < N → sd x < 2000000000 := fun x hx => by have := e6 x hx; omega
  have sto : ∀ (x : mwM), (∀ a y, 902 ≤ a → a ≤ 920 → ¬ (a = 902 ∧ y = 0) → x a y = M a y) → ∀ j, j < n → DX18_stored fu (sI j) 0 x Lm = some (sI (lk j + 1), mset x 902 0 0, Lm) := fun x hx j hj => by
    rw [m_stored (N := N) (l := l) (sd := sd) hf hN (by omega) b1 hsd b2 e3 (by rw [hx 902 2 (by omega) (by omega) (by omega)]; exact a2) (fun i u => by rw [hx 916 _ (by omega) (by omega) (by omega)]; exact e1 i u) e2, dif_pos (show j < l.length by omega), hlk j (by omega)]
  have sta : ∀ (x : mwM), (∀ a y, 902 ≤ a → a ≤ 920 → ¬ (a = 902 ∧ y = 0) → x a y = M a y) → ∀ i, i < N → DX18_status fu (sI (i + 1)) x Lm = some (sI (st i), mset x 902 0 0, Lm) := fun x hx i hi => by
    obtain ⟨k, q1, q2, _, q3⟩ := st_status (fu := fu) (L := Lc) (L2 := Lm) hf hi (RTr_fr hT0 (fun _ _ _ _ => rfl) hx)
    rw [q3, ← q2, (hst i hi).2]
  unfold DX7_listTroubles DX19_serveTroubles
  rw [c_put7 h7 (by omega), mb2_s]
  have g3 : mset (mset A 282 0 89) 275 7 (sI (0 + 1)) 139 3 = sI n := by
    rw [mset_n (by omega), mset_n (by omega)]; exact b3
  rw [g3, c_put7 (n := 1) mset_s (by omega), mb2_s]
  generalize hA1 : mset (mset (mset (mset A 282 0 89) 275 7 (sI (0 + 1))) 282 1 (sI n)) 275 7 (sI (1 + 1)) = A1
  have f1 : ∀ a y, a ≠ 282 → ¬ (a = 275 ∧ y = 7) → A1 a y = A a y := fun a y u1 u2 => by
    rw [← hA1]
    simp (disch := omega) only [mset_n]
  have g1 : A1 275 7 = sI 2 ∧ A1 282 0 = sI 89 ∧ A1 282 1 = sI n := by
    rw [← hA1]
    simp (disch := omega) only [mset_n, mset_s]
    exact ⟨(by first | trivial | rfl), (by first | trivial | rfl), (by first | trivial | rfl)⟩
  have em : DX18_stored fu (-1) 0 M Lm = some (sI n, mset M 902 0 0, Lm) := by
    unfold DX18_stored
    unfold mlet
    dsimp only
    rw [if_pos rfl, if_pos rfl, m_entries (N := N) (l := l) (sd := sd) hf hN hsd b2 (oke_nodup e3) (by rw [mset_n (by omega)]; exact a2) (fun i u => by rw [mset_n (by omega)]; exact e1 i u) e2, mb3_s, ← hn]
  rw [em, mb3_s, show (0 : Int32).toNatClampNeg = 0 by decide, show (1 : Int32).toNatClampNeg = 1 by decide]
  simp only [mlet]
  generalize hM1 : mset (mset (mset M 902 0 0) 933 0 89) 933 1 (sI n) = M1
  have f2 : ∀ a y, a ≠ 933 → ¬ (a = 902 ∧ y = 0) → M1 a y = M a y := fun a y u1 u2 => by
    rw [← hM1]
    simp (disch := omega) only [mset_n]
  have g2 : M1 933 0 = sI 89 ∧ M1 933 1 = sI n := by
    rw [← hM1]
    simp (disch := omega) only [mset_n, mset_s]
    exact ⟨rfl, trivial⟩
  have cl : wq (fX7_listTroubles_h16 fu fu (0, A1, Lc)) (fun z => z.2 = Lc ∧ z.1 275 7 = sI (2 + 2 * n) ∧ (∀ j, j < n → z.1 282 (2 + 2 * j) = sI (lk j + 1) ∧ z.1 282 (3 + 2 * j) = sI (st (lk j))) ∧ (∀ j, j < 2 → z.1 282 j = A1 282 j) ∧ ∀ a y, a ≠ 282 → ¬ (a = 275 ∧ y = 7) → z.1 a y = A1 a y) := by
    refine wq_for (body := fun r z => fX7_listTroubles_i16 fu r z.1 z.2.1 z.2.2) (fun i (x : mwM) => (sI i, x, Lc)) (fun i x => x 275 7 = sI (2 + 2 * i) ∧ (∀ j, j < i → x 282 (2 + 2 * j) = sI (lk j + 1) ∧ x 282 (3 + 2 * j) = sI (st (lk j))) ∧ (∀ j, j < 2 → x 282 j = A1 282 j) ∧ ∀ a y, a ≠ 282 → ¬ (a = 275 ∧ y = 7) → x a y = A1 a y) n ?_ ?_ n 0 A1 fu (by omega) (by omega) ⟨g1.1, fun j u => by omega, fun _ _ => rfl, fun _ _ _ _ => rfl⟩
    · intro i x r hi ⟨x1, x2, x3, x4⟩ ih
      show wq (fX7_listTroubles_i16 fu r (sI i) x Lc) _
      have hlt := lN i hi
      obtain ⟨s1, s2⟩ := hst (lk i) hlt
      unfold fX7_listTroubles_i16 DX10_statusOf
      rw [x4 139 3 (by omega) (by omega), f1 139 3 (by omega) (by omega), b3, if_neg (by rw [sI_le (by omega) (by omega)]; omega), mck_s (by omega) (by omega), sI_nn (by omega), x4 153 i (by omega) (by omega), f1 153 i (by omega) (by omega), b5 i hi, sI_1, c_put7 x1 (by omega), mb2_s, mck_s (by omega) (by omega), mset_n (show ¬ (153 = 275 ∧ i = 7) by omega), mset_n (show ¬ (153 = 282 ∧ i = 2 + 2 * i) by omega), x4 153 i (by omega) (by omega), f1 153 i (by omega) (by omega), b5 i hi, mck_s (by omega) (by omega), mb3_s, sI_nn (by omega), mset_n (show ¬ (146 = 275 ∧ lk i = 7) by omega), mset_n (show ¬ (146 = 282 ∧ lk i = 2 + 2 * i) by omega), x4 146 _ (by omega) (by omega), f1 146 _ (by omega) (by omega), s2, c_put7 (n := 2 + 2 * i + 1) mset_s (by omega), mb2_s]
      simp only [mlet]
      rw [sI_1]
      refine ih _ ⟨by rw [mset_s]; rfl, fun j u => ?_, fun j u => ?_, fun a y u1 u2 => ?_⟩
      · by_cases hq : j = i
        · subst hq
          simp (disch := omega) only [mset_n]
          rw [mset_s, show 3 + 2 * j = 2 + 2 * j + 1 by omega, mset_s]
          exact ⟨rfl, rfl⟩
        · simp (disch := omega) only [mset_n]
          exact x2 j (by omega)
      · simp (disch := omega) only [mset_n]
        exact x3 j u
      · simp (disch := omega) only [mset_n]
        exact x4 a y u1 u2
    · intro x r ⟨x1, x2, x3, x4⟩
      show wq (fX7_listTroubles_i16 fu r (sI n) x Lc) _
      unfold fX7_listTroubles_i16
      rw [x4 139 3 (by omega) (by omega), f1 139 3 (by omega) (by omega), b3, if_pos (by rw [sI_le (by omega) (by omega)]; omega)]
      exact wq_some ⟨rfl, x1, x2, x3, x4⟩
  have mo : wq (fX19_serveTroubles_h27 fu fu (sI n, 0, M1, Lm)) (fun z => z.2 = Lm ∧ z.1 732 102 = sI (2 + 2 * n) ∧ (∀ j, j < n → z.1 933 (2 + 2 * j) = sI (lk j + 1) ∧ z.1 933 (3 + 2 * j) = sI (st (lk j))) ∧ (∀ j, j < 2 → z.1 933 j = M1 933 j) ∧ ∀ a y, a ≠ 933 → ¬ (a = 732 ∧ y = 102) → ¬ (a = 902 ∧ y = 0) → z.1 a y = M1 a y) := by
    refine wq_for (body := fun r z => fX19_serveTroubles_i27 fu r z.1 z.2.1 z.2.2.1 z.2.2.2) (fun i (x : mwM) => (sI n, sI i, x, Lm)) (fun i x => (∀ j, j < i → x 933 (2 + 2 * j) = sI (lk j + 1) ∧ x 933 (3 + 2 * j) = sI (st (lk j))) ∧ (∀ j, j < 2 → x 933 j = M1 933 j) ∧ ∀ a y, a ≠ 933 → ¬ (a = 902 ∧ y = 0) → x a y = M1 a y) n ?_ ?_ n 0 M1 fu (by omega) (by omega) ⟨fun j u => by omega, fun _ _ => rfl, fun _ _ _ _ => rfl⟩
    · intro i x r hi ⟨x2, x3, x4⟩ ih
      show wq (fX19_serveTroubles_i27 fu r (sI n) (sI i) x Lm) _
      have hlt := lN i hi
      have hx : ∀ a y, 902 ≤ a → a ≤ 920 → ¬ (a = 902 ∧ y = 0) → x a y = M a y := fun a y u1 u2 u3 => by
        rw [x4 a y (by omega) u3, f2 a y (by omega) u3]
      unfold fX19_serveTroubles_i27
      rw [if_neg (by rw [sI_le (by omega) (by omega)]; omega), sto x hx i hi, mb3_s, sI_lml, sI_lad, mck_s (by omega) (by omega), sI_nn (by omega)]
      simp only [mlet]
      rw [sto _ (fun a y u1 u2 u3 => by rw [mset_n (by omega), mset_n (by omega)]; exact hx a y u1 u2 u3) i hi, mb3_s, sta _ (fun a y u1 u2 u3 => by rw [mset_n (by omega), mset_n (by omega), mset_n (by omega)]; exact hx a y u1 u2 u3) (lk i) hlt, mb3_s, sI_lad, mck_s (by omega) (by omega), sI_nn (by omega), sI_1]
      refine ih _ ⟨fun j u => ?_, fun j u => ?_, fun a y u1 u2 => ?_⟩
      · by_cases hq : j = i
        · subst hq
          simp (disch := omega) only [mset_n]
          rw [mset_s, mset_s]
          exact ⟨rfl, rfl⟩
        · simp (disch := omega) only [mset_n]
          exact x2 j (by omega)
      · simp (disch := omega) only [mset_n]
        exact x3 j u
      · simp (disch := omega) only [mset_n]
        exact x4 a y u1 u2
    · intro x r ⟨x2, x3, x4⟩
      show wq (fX19_serveTroubles_i27 fu r (sI n) (sI n) x Lm) _
      unfold fX19_serveTroubles_i27
      rw [if_pos (by rw [sI_le (by omega) (by omega)]; omega), sI_lml, sI_lad]
      simp only [mlet]
      refine wq_some ⟨rfl, by dsimp only; rw [mset_s]; try rfl, fun j u => ?_, fun i u => ?_, fun a y u1 u2 u3 => ?_⟩
      · simp (disch := omega) only [mset_n]
        exact x2 j u
      · simp (disch := omega) only [mset_n]
        exact x3 i u
      · dsimp only
        rw [mset_n u2]; exact x4 a y u1 u3
  obtain ⟨A2, L2, ea, p1, p2, p3, p4, p5⟩ := wq_ex cl
  obtain ⟨M2, L3, eb, d1, d2, d3, d4, d5⟩ := wq_ex mo
  dsimp only at p1 p2 p3 p4 p5 d1 d2 d3 d4 d5
  subst p1
  subst d1
  rw [ea, eb]
  refine sv_end (A := A) (M := M) (sz := 2 + 2 * n) (v := fun i => if i = 0 then 89 else if i = 1 then n else if i % 2 = 0 then lk ((i - 2) / 2) + 1 else st (lk ((i - 3) / 2))) SvB_0 hQ hT0 hC (fun a y u1 u2 => by rw [p5 a y u1 u2]; exact f1 a y u1 u2) (fun a y u1 u2 u3 u4 => by rw [d5 a y u1 u2 u3]; exact f2 a y u1 u3) (by omega) p2 d2 (fun i u => ?_)
  by_cases i0 : i = 0
  · subst i0
    rw [p4 0 (by omega), d4 0 (by omega), g1.2.1, g2.1]
    exact ⟨show 89 < 256 by decide, rfl, rfl⟩
  · by_cases i1 : i = 1
    · subst i1
      rw [p4 1 (by omega), d4 1 (by omega), g1.2.2, g2.2]
      exact ⟨show n < 256 by omega, rfl, rfl⟩
    · rw [if_neg i0, if_neg i1]
      by_cases i2 : i % 2 = 0
      · rw [if_pos i2]
        have q1 := p3 ((i - 2) / 2) (by omega)
        have q2 := d3 ((i - 2) / 2) (by omega)
        have q3 := lN ((i - 2) / 2) (by omega)
        rw [show 2 + 2 * ((i - 2) / 2) = i by omega] at q1 q2
        exact ⟨by omega, q1.1, q2.1⟩
      · rw [if_neg i2]
        have q1 := p3 ((i - 3) / 2) (by omega)
        have q2 := d3 ((i - 3) / 2) (by omega)
        have q3 := lN ((i - 3) / 2) (by omega)
        rw [show 3 + 2 * ((i - 3) / 2) = i by omega] at q1 q2
        exact ⟨(hst _ q3).1, q1.2, q2.2⟩
def k24 (i : Nat) : Int32 := 24 - 8 * sI i
theorem k24_1 : ∀ i, i < 4 → k24 i = sI (24 - 8 * i) ∧ k24 i + (-8) = k24 (i + 1) ∧ ¬ k24 i < 0 := by decide +kernel
theorem k24_4 : k24 4 < 0 := by decide +kernel
theorem k3_1 : ∀ i, i < 4 → (8 : Int32) * (3 - sI i) = sI (24 - 8 * i) := by decide +kernel
theorem by32_s (x : Int32) (i : Nat) (h : i < 4) : x.toUInt32.toNat / 2 ^ (24 - 8 * i) % 256 = by32 x i := by
  unfold by32
  rw [show 8 * (3 - i) = 24 - 8 * i by omega]
theorem st_seed {fu X N E c : Nat} {S : Nat → Nat} {A M : mwM} {Lc Lm : mwL} (hf : 31 ≤ fu) (hc : c < 6) (hQ : QuR A M) (hT : RTr A M N E) (hC : RCd A M S) (h7 : A 275 7 = sI 0) (m0 : M 932 0 = sI 39) : SvQ X N E S A Lc M Lm (DX7_openSeed fu (sI c) A Lc) (DX19_serveSeed fu (sI c) M Lm) := by
  obtain ⟨ses, w, rig, sdd, k1, k2, k3, k4, k5, k6, k7, k8, k9, k10, k11, k12⟩ := hQ.2 c hc
  unfold DX7_openSeed DX19_serveSeed fX19_serveSeed_b20 fX19_serveSeed_b38
  simp only [mb2_id]
  rw [show (0 : Int32).toNatClampNeg = 0 by decide, show (1 : Int32).toNatClampNeg = 1 by decide]
  simp (disch := omega) only [mck_s, sI_nn, k4, k5, k11, k12]
  by_cases a1 : ses = 1
  · have b1 : sI ses = 1 := by rw [a1]; rfl
    simp only [if_pos b1]
    exact st_no (x := 39) (w := 34) SvB_0 hQ hT hC h7 (by omega) (by omega) m0
  · have b1 : ¬ sI ses = 1 := by rw [sI_eql (by omega) (by decide)]; exact a1
    simp only [if_neg b1]
    by_cases a2 : w = 3
    · have b2 : ¬ sI w < 3 := by rw [sI_ltl (by omega) (by decide)]; omega
      have b3 : sI w = 3 := by rw [a2]; rfl
      rw [if_neg b2, if_pos b3]
      exact st_no (x := 39) (w := 54) SvB_0 hQ hT hC h7 (by omega) (by omega) m0
    · have b2 : sI w < 3 := by rw [sI_ltl (by omega) (by decide)]; omega
      have b3 : ¬ sI w = 3 := by rw [sI_eql (by omega) (by decide)]; exact a2
      rw [if_pos b2, if_neg b3, hQ.1]
      generalize hs : M 732 108 + 1 = s
      simp only [mlet]
      simp (disch := omega) only [mset_n, mset_s]
      rw [seed_eq s]
      generalize hsd : (-1640531535) * s = sd
      generalize hA1 : mset (mset (mset A 275 8 s) 279 c sd) 278 c (vp_nar .boolean 1) = A1
      have f1 : ∀ a y, ¬ (a = 275 ∧ y = 8) → ¬ (a = 279 ∧ y = c) → ¬ (a = 278 ∧ y = c) → A1 a y = A a y := fun a y u1 u2 u3 => by rw [← hA1, mset_n u3, mset_n u2, mset_n u1]
      have q1 : A1 275 8 = s ∧ A1 279 c = sd ∧ A1 278 c = bI true := by
        rw [← hA1]
        simp (disch := omega) only [mset_n, mset_s]
        exact ⟨(by first | trivial | rfl), (by first | trivial | rfl), (by first | trivial | rfl)⟩
      rw [c_put7 (n := 0) (by rw [f1 275 7 (by omega) (by omega) (by omega)]; exact h7) (by omega), mb2_s, c_put7 (n := 1) mset_s (by omega), mb2_s]
      generalize hA2 : mset (mset (mset (mset A1 282 0 103) 275 7 (sI (0 + 1))) 282 1 1) 275 7 (sI (1 + 1)) = A2
      have f3 : ∀ a y, a ≠ 282 → ¬ (a = 275 ∧ y = 7) → A2 a y = A1 a y := fun a y u1 u2 => by
        rw [← hA2]
        simp (disch := omega) only [mset_n]
      have g1 : A2 275 7 = sI 2 ∧ A2 282 0 = sI 103 ∧ A2 282 1 = sI 1 := by
        rw [← hA2]
        simp (disch := omega) only [mset_n, mset_s]
        exact ⟨(by first | trivial | rfl), (by first | trivial | rfl), (by first | trivial | rfl)⟩
      generalize hM1 : mset (mset (mset M 732 108 s) 936 c (vp_nar .boolean 1)) 937 c sd = M1
      have f2 : ∀ a y, ¬ (a = 732 ∧ y = 108) → ¬ (a = 936 ∧ y = c) → ¬ (a = 937 ∧ y = c) → M1 a y = M a y := fun a y u1 u2 u3 => by rw [← hM1, mset_n u3, mset_n u2, mset_n u1]
      have q2 : M1 732 108 = s ∧ M1 937 c = sd ∧ M1 936 c = bI true := by
        rw [← hM1]
        simp (disch := omega) only [mset_n, mset_s]
        exact ⟨(by first | trivial | rfl), (by first | trivial | rfl), (by first | trivial | rfl)⟩
      generalize hM2 : mset (mset M1 933 0 103) 933 1 1 = M2
      have f4 : ∀ a y, a ≠ 933 → M2 a y = M1 a y := fun a y u1 => by
        rw [← hM2]
        simp (disch := omega) only [mset_n]
      have g2 : M2 933 0 = sI 103 ∧ M2 933 1 = sI 1 := by
        rw [← hM2]
        simp (disch := omega) only [mset_n, mset_s]
        exact ⟨rfl, rfl⟩
      have cl : wq (fX7_openSeed_h82 fu (sI c) fu (24, A2, Lc)) (fun z => z.2 = Lc ∧ z.1 275 7 = sI 6 ∧ (∀ j, j < 4 → z.1 282 (2 + j) = sI (by32 sd j)) ∧ (∀ j, j < 2 → z.1 282 j = A2 282 j) ∧ ∀ a y, a ≠ 282 → ¬ (a = 275 ∧ y = 7) → z.1 a y = A2 a y) := by
        refine wq_for (body := fun r z => fX7_openSeed_i82 fu (sI c) r z.1 z.2.1 z.2.2) (fun i (x : mwM) => (k24 i, x, Lc)) (fun i x => x 275 7 = sI (2 + i) ∧ (∀ j, j < i → x 282 (2 + j) = sI (by32 sd j)) ∧ (∀ j, j < 2 → x 282 j = A2 282 j) ∧ ∀ a y, a ≠ 282 → ¬ (a = 275 ∧ y = 7) → x a y = A2 a y) 4 ?_ ?_ 4 0 A2 fu (by omega) (by omega) ⟨g1.1, fun j u => by omega, fun _ _ => rfl, fun _ _ _ _ => rfl⟩
        · intro i x r hi ⟨x1, x2, x3, x4⟩ ih
          show wq (fX7_openSeed_i82 fu (sI c) r (k24 i) x Lc) _
          obtain ⟨n1, n2, n3⟩ := k24_1 i hi
          unfold fX7_openSeed_i82
          rw [if_neg n3, mck_s (by omega) (by omega), sI_nn (by omega), x4 279 c (by omega) (by omega), f3 279 c (by omega) (by omega), q1.2.1, n2, n1, ush32 sd _ (by omega), by32_s sd i hi, c_put7 x1 (by omega), mb2_s]
          simp only [mlet]
          refine ih _ ⟨by rw [mset_s]; rfl, fun j u => ?_, fun j u => ?_, fun a y u1 u2 => ?_⟩
          · rw [mset_n (by omega)]
            by_cases hq : j = i
            · rw [hq, mset_s]
            · rw [mset_n (by omega)]; exact x2 j (by omega)
          · simp (disch := omega) only [mset_n]
            exact x3 j u
          · simp (disch := omega) only [mset_n]
            exact x4 a y u1 u2
        · intro x r ⟨x1, x2, x3, x4⟩
          show wq (fX7_openSeed_i82 fu (sI c) r (k24 4) x Lc) _
          unfold fX7_openSeed_i82
          rw [if_pos k24_4]
          exact wq_some ⟨rfl, x1, x2, x3, x4⟩
      have mo : wq (fX19_serveSeed_h96 fu (sI c) fu (0, M2, Lm)) (fun z => z.2 = Lm ∧ z.1 732 102 = sI 6 ∧ (∀ j, j < 4 → z.1 933 (2 + j) = sI (by32 sd j)) ∧ (∀ j, j < 2 → z.1 933 j = M2 933 j) ∧ ∀ a y, a ≠ 933 → ¬ (a = 732 ∧ y = 102) → z.1 a y = M2 a y) := by
        refine wq_for (body := fun r z => fX19_serveSeed_i96 fu (sI c) r z.1 z.2.1 z.2.2) (fun i (x : mwM) => (sI i, x, Lm)) (fun i x => (∀ j, j < i → x 933 (2 + j) = sI (by32 sd j)) ∧ (∀ j, j < 2 → x 933 j = M2 933 j) ∧ ∀ a y, a ≠ 933 → x a y = M2 a y) 4 ?_ ?_ 4 0 M2 fu (by omega) (by omega) ⟨fun j u => by omega, fun _ _ => rfl, fun _ _ _ => rfl⟩
        · intro i x r hi ⟨x2, x3, x4⟩ ih
          show wq (fX19_serveSeed_i96 fu (sI c) r (sI i) x Lm) _
          unfold fX19_serveSeed_i96
          rw [if_neg (by rw [sI_lle (by decide) (by omega)]; omega), mck_s (by omega) (by omega), sI_lad, mck_s (by omega) (by omega), sI_nn (by omega), sI_nn (by omega), x4 937 c (by omega), f4 937 c (by omega), q2.2.1, k3_1 i hi, ssh32 sd _ (by omega), by32_s sd i hi]
          simp only [mlet]
          rw [sI_1]
          refine ih _ ⟨fun j u => ?_, fun j u => ?_, fun a y u1 => ?_⟩
          · by_cases hq : j = i
            · rw [hq, mset_s]
            · rw [mset_n (by omega)]; exact x2 j (by omega)
          · rw [mset_n (by omega)]; exact x3 j u
          · rw [mset_n (by omega)]; exact x4 a y u1
        · intro x r ⟨x2, x3, x4⟩
          show wq (fX19_serveSeed_i96 fu (sI c) r (sI 4) x Lm) _
          unfold fX19_serveSeed_i96
          rw [if_pos (by decide)]
          simp only [mlet]
          refine wq_some ⟨rfl, by dsimp only; rw [mset_s]; try rfl, fun i u => ?_, fun i u => ?_, fun a y u1 u2 => ?_⟩
          · dsimp only
            rw [mset_n (by omega)]; exact x2 i u
          · dsimp only
            rw [mset_n (by omega)]; exact x3 i u
          · dsimp only
            rw [mset_n u2]; exact x4 a y u1
      obtain ⟨A3, L2, ea, p1, p2, p3, p4, p5⟩ := wq_ex cl
      obtain ⟨M3, L3, eb, d1, d2, d3, d4, d5⟩ := wq_ex mo
      dsimp only at p1 p2 p3 p4 p5 d1 d2 d3 d4 d5
      subst p1
      subst d1
      rw [ea, eb]
      refine sv_end (A := A1) (M := M1) (sz := 6) (v := fun i => if i = 0 then 103 else if i = 1 then 1 else by32 sd (i - 2)) ⟨fun a y u => f1 a y (by omega) (by omega) (by omega), fun a y u _ => f2 a y (by omega) (by omega) (by omega), Or.inl ⟨rfl, rfl⟩⟩ ?_ ?_ ?_ (fun a y u1 u2 => by rw [p5 a y u1 u2]; exact f3 a y u1 u2) (fun a y u1 u2 u3 u4 => by rw [d5 a y u1 u2]; exact f4 a y u1) (by omega) p2 d2 (fun i u => ?_)
      · refine QuR_1 (c := c) hQ (by rw [q1.1, q2.1]) (fun a y u1 u2 u3 => f1 a y (by omega) (by omega) (by omega)) (fun a y u1 u2 u3 => f2 a y (by omega) (by omega) (by omega)) ?_
        refine ⟨ses, w, rig, true, k1, k2, k3, ?_, ?_, ?_, ?_, q1.2.2, q2.2.2, (fun _ => by rw [q1.2.1, q2.2.1]), ?_, ?_⟩
        · rw [f1 276 c (by omega) (by omega) (by omega)]; exact k4
        · rw [f2 934 c (by omega) (by omega) (by omega)]; exact k5
        · rw [f1 277 c (by omega) (by omega) (by omega)]; exact k6
        · rw [f2 935 c (by omega) (by omega) (by omega)]; exact k7
        · rw [f1 280 c (by omega) (by omega) (by omega)]; exact k11
        · rw [f2 938 c (by omega) (by omega) (by omega)]; exact k12
      · exact RTr_fr hT (fun a y u1 u2 => f1 a y (by omega) (by omega) (by omega)) (fun a y u1 u2 u3 => f2 a y (by omega) (by omega) (by omega))
      · exact RCd_fr hC (fun a y u1 u2 => f1 a y (by omega) (by omega) (by omega)) (fun a y u => f2 a y (by omega) (by omega) (by omega))
      · by_cases i0 : i = 0
        · subst i0
          rw [p4 0 (by omega), d4 0 (by omega), g1.2.1, g2.1]
          exact ⟨show 103 < 256 by decide, rfl, rfl⟩
        · by_cases i1 : i = 1
          · subst i1
            rw [p4 1 (by omega), d4 1 (by omega), g1.2.2, g2.2]
            exact ⟨show 1 < 256 by decide, rfl, rfl⟩
          · rw [if_neg i0, if_neg i1]
            have z1 := p3 (i - 2) (by omega)
            have z2 := d3 (i - 2) (by omega)
            rw [show 2 + (i - 2) = i by omega] at z1 z2
            exact ⟨by32_lt _ _, z1, z2⟩
/-! questions: a key -/
theorem i8a (y : Int32) : (y.toInt8.toInt32) &&& 255 = y &&& 255 := by
  apply Int32.toBitVec_inj.mp
  show (y.toInt8.toInt32).toBitVec &&& (255 : Int32).toBitVec = y.toBitVec &&& (255 : Int32).toBitVec
  rw [Int8.toBitVec_toInt32, Int32.toBitVec_toInt8]
  apply BitVec.eq_of_getLsbD_eq
  intro i hi
  rw [BitVec.getLsbD_and, BitVec.getLsbD_and]
  by_cases h : i < 8
  · congr 1
    rw [BitVec.getLsbD_signExtend, BitVec.getLsbD_signExtend]
    simp [h, hi]
    try omega
  · have h2 : ∀ i, i < 32 → 8 ≤ i → ((255 : Int32).toBitVec).getLsbD i = false := by decide +kernel
    rw [h2 i hi (by omega), Bool.and_false, Bool.and_false]
theorem SvQ_c {X N E : Nat} {S : Nat → Nat} {A0 : mwM} {Lc0 : mwL} {M0 : mwM} {Lm0 : mwL} {oc om : Option (mwM × mwL)} : wq oc (fun z => SvQ X N E S A0 Lc0 M0 Lm0 (some z) om) ↔ SvQ X N E S A0 Lc0 M0 Lm0 oc om := by
  constructor
  · rintro ⟨z, e, h⟩
    rw [e]; exact h
  · intro h
    have h2 := h
    obtain ⟨A, Lc, M, Lm, sz, v, e1, e2⟩ := h
    rw [e1] at h2 ⊢
    exact wq_some h2
theorem SvQ_m {X N E : Nat} {S : Nat → Nat} {A0 : mwM} {Lc0 : mwL} {M0 : mwM} {Lm0 : mwL} {oc om : Option (mwM × mwL)} : wq om (fun z => SvQ X N E S A0 Lc0 M0 Lm0 oc (some z)) ↔ SvQ X N E S A0 Lc0 M0 Lm0 oc om := by
  constructor
  · rintro ⟨z, e, h⟩
    rw [e]; exact h
  · intro h
    have h2 := h
    obtain ⟨A, Lc, M, Lm, sz, v, e1, e2, e3⟩ := h
    rw [e2] at h2 ⊢
    exact wq_some h2
def pr4 (x w : Nat → Nat) : Nat → Bool
  | 0 => true
  | i + 1 => pr4 x w i && (x i == w i)
theorem pr4_4 (x w : Nat → Nat) : pr4 x w 4 = sam4 x w := by
  simp [pr4, sam4, Bool.and_assoc]
theorem k24_2 : ∀ i, i < 4 → (24 : Int32) - 8 * sI i = sI (24 - 8 * i) := by decide +kernel
theorem st_key {fu X N E c row : Nat} {S : Nat → Nat} {A M : mwM} {Lc Lm : mwL} {o : Nat → Nat} (hf : 200 ≤ fu) (hc : c < 6) (hQ : QuR A M) (hT : RTr A M N E) (hC : RCd A M S) (hK : KnC A S 16) (h7 : A 275 7 = sI 0) (hrow : row < 275) (hrow2 : 153 < row) (ho : ∀ i, i < 6 → A row i = sI (o i) ∧ M 932 i = sI (o i) ∧ o i < 256) (o0 : o 0 = 39) : SvQ X N E S A Lc M Lm (DX7_tryKey fu (sI c) row 100 A Lc) (DX19_serveKey fu (sI c) M Lm) := by
  have m0 := (ho 0 (by omega)).2.1
  rw [o0] at m0
  obtain ⟨ses, w, rig, sdd, k1, k2, k3, k4, k5, k6, k7, k8, k9, k10, k11, k12⟩ := hQ.2 c hc
  have hC0 := hC
  obtain ⟨c1, c2, c3, c4, c5, c6, c7⟩ := hC0
  unfold DX7_tryKey DX19_serveKey fX19_serveKey_b19 fX19_serveKey_b37
  simp only [mb2_id]
  simp (disch := omega) only [mck_s, sI_nn, k8, k9, k11, k12]
  by_cases a2 : w = 3
  · have b2 : ¬ sI w < 3 := by rw [sI_ltl (by omega) (by decide)]; omega
    have b3 : sI w = 3 := by rw [a2]; rfl
    simp only [if_neg b2, if_pos b3]
    exact st_no (x := 39) (w := 54) SvB_0 hQ hT hC h7 (by omega) (by omega) m0
  · have b2 : sI w < 3 := by rw [sI_ltl (by omega) (by decide)]; omega
    have b3 : ¬ sI w = 3 := by rw [sI_eql (by omega) (by decide)]; exact a2
    simp only [if_pos b2, if_neg b3]
    cases hs : sdd with
    | false =>
      simp only [if_pos (show bI false = 0 from rfl)]
      exact st_no (x := 39) (w := 36) SvB_0 hQ hT hC h7 (by omega) (by omega) m0
    | true =>
      simp only [if_neg (show ¬ bI true = 0 by decide), mlet]
      have hseed := k10 hs
      generalize hsd : A 279 c = sd at hseed
      generalize hx : (fun i => o (2 + i)) = x
      generalize hw : cmac S (scN S 16) 4 (fun i => by32 sd i) = cm
      generalize hA0 : mset A 278 c (vp_nar .boolean 0) = A0
      have f0 : ∀ a y, ¬ (a = 278 ∧ y = c) → A0 a y = A a y := fun a y u => by rw [← hA0, mset_n u]
      generalize hM0 : mset M 936 c (vp_nar .boolean 0) = M0
      have e0 : ∀ a y, ¬ (a = 936 ∧ y = c) → M0 a y = M a y := fun a y u => by rw [← hM0, mset_n u]
      rw [← SvQ_c]
      refine wq_for (body := fun r z => fX7_tryKey_i47 fu (sI c) row 100 r z.1 z.2.1 z.2.2) (fun i (x : mwM) => (sI i, x, Lc)) (fun i x => (∀ j, j < i → x 281 j = sI (by32 sd j)) ∧ ∀ a y, a ≠ 281 → x a y = A0 a y) 4 ?_ ?_ 4 0 A0 fu (by omega) (by omega) ⟨fun j u => by omega, fun _ _ _ => rfl⟩
      · intro i y r hi ⟨x2, x4⟩ ih
        show wq (fX7_tryKey_i47 fu (sI c) row 100 r (sI i) y Lc) _
        unfold fX7_tryKey_i47
        rw [if_neg (by rw [sI_lle (by decide) (by omega)]; omega), mck_s hc (by omega), mck_s (by omega) (by omega), sI_nn (by omega), sI_nn (by omega), x4 279 c (by omega), f0 279 c (by omega), hsd, k24_2 i hi, ush32 sd _ (by omega), by32_s sd i hi]
        simp only [mlet]
        rw [sI_1]
        refine ih _ ⟨fun j u => ?_, fun a b u1 => ?_⟩
        · by_cases hq : j = i
          · rw [hq, mset_s]
          · rw [mset_n (by omega)]; exact x2 j (by omega)
        · rw [mset_n (by omega)]; exact x4 a b u1
      · intro y r ⟨x2, x4⟩
        show wq (fX7_tryKey_i47 fu (sI c) row 100 r (sI 4) y Lc) _
        unfold fX7_tryKey_i47 fX7_tryKey_b159
        rw [if_pos (by decide)]
        refine wq_b2 (c_make (key := 16) (row := 281) (len := 4) (n := 4) (S := S) (rk := scN S 16) (v := fun i => by32 sd i) (by omega) (by omega) (fun i u => by rw [x4 98 i (by omega), f0 98 i (by omega)]; exact c1 i u) (fun i u => by rw [x4 99 i (by omega), f0 99 i (by omega)]; exact c2 i u) (fun i u => by rw [x4 _ i (by omega), f0 _ i (by omega)]; exact hK.2.1 i u) (fun i u => by rw [x4 _ i (by omega), f0 _ i (by omega)]; exact hK.2.2 i u) (by omega) (by omega) (by omega) (fun i u => ⟨x2 i u, by32_lt _ _⟩)) ?_
        rintro A1 L1 ⟨y1, y2, y3⟩
        dsimp only at y1 y2 y3
        subst y1
        rw [hw] at y2
        have f1 : ∀ a b, ¬ (a = 278 ∧ b = c) → a ≠ 281 → a ≠ 137 → a ≠ 138 → A1 a b = A a b := fun a b u1 u2 u3 u4 => by
          rw [y3 a b u3 u4, x4 a b u2, f0 a b u1]
        have iso : DX3_isOut fu row 100 2 A1 L1 = some (bI (sam4 x cm), A1, L1) := c_isOut3 (fr := 2) (by omega) (by omega) (by omega) (fun i u => by rw [f1 row _ (by omega) (by omega) (by omega) (by omega), ← hx]; exact ⟨(ho (2 + i) (by omega)).1, (ho (2 + i) (by omega)).2.2⟩) (fun i u => y2 i (by omega))
        have n1 : ∀ b : Bool, vp_nar .boolean (bI b) = bI b := by decide
        rw [iso, mb3_s, mck_s hc (by omega), sI_nn (by omega)]
        simp only [mlet]
        rw [mck_s hc (by omega), mset_s, n1]
        generalize hr : sam4 x cm = rr
        generalize hA2 : mset A1 277 c (bI rr) = A2
        have f2 : ∀ a b, ¬ (a = 277 ∧ b = c) → ¬ (a = 278 ∧ b = c) → a ≠ 281 → a ≠ 137 → a ≠ 138 → A2 a b = A a b := fun a b u0 u1 u2 u3 u4 => by
          rw [← hA2, mset_n u0, f1 a b u1 u2 u3 u4]
        have g2 : A2 277 c = bI rr ∧ A2 278 c = bI false := by
          rw [← hA2]
          refine ⟨mset_s, ?_⟩
          rw [mset_n (by omega), y3 278 c (by omega) (by omega), x4 278 c (by omega), ← hA0, mset_s]
          rfl
        rw [SvQ_c, ← SvQ_m]
        refine wq_for (body := fun r z => fX19_serveKey_i50 fu (sI c) r z.1 z.2.1 z.2.2) (fun i (x : mwM) => (sI i, x, Lm)) (fun i x => x 854 6 = sI i ∧ (∀ j, j < i → x 858 j = sI (by32 sd j)) ∧ ∀ a y, a ≠ 858 → ¬ (a = 854 ∧ (y = 0 ∨ y = 6)) → x a y = M0 a y) 4 ?_ ?_ 4 0 M0 fu (by omega) (by omega) ⟨by rw [e0 854 6 (by omega), c5]; rfl, fun j u => by omega, fun _ _ _ _ => rfl⟩
        · intro i y r hi ⟨z1, z2, z4⟩ ih
          show wq (fX19_serveKey_i50 fu (sI c) r (sI i) y Lm) _
          unfold fX19_serveKey_i50
          rw [if_neg (by rw [sI_lle (by decide) (by omega)]; omega), mck_s hc (by omega), sI_nn (by omega), z4 937 c (by omega) (by omega), e0 937 c (by omega), ← hseed, k3_1 i hi, m_octet (n := i) (x := by32 sd i) (by omega) z1 (by32_lt _ _) _ (by rw [i8a, ssh32 sd _ (by omega), by32_s sd i hi]), mb2_s]
          simp only [mlet]
          rw [sI_1]
          refine ih _ ⟨mset_s, fun j u => ?_, fun a b u1 u2 => ?_⟩
          · rw [mset_n (by omega)]
            by_cases hq : j = i
            · rw [hq, mset_s]
            · rw [mset_n (by omega), mset_n (by omega)]; exact z2 j (by omega)
          · rw [mset_n (by omega), mset_n (by omega), mset_n (by omega)]; exact z4 a b u1 u2
        · intro y r ⟨z1, z2, z4⟩
          show wq (fX19_serveKey_i50 fu (sI c) r (sI 4) y Lm) _
          unfold fX19_serveKey_i50
          rw [if_pos (by decide)]
          refine wq_b3 (m_code (k := 16) (n := 4) (S := S) (k0 := fun i => 16 + i) (v := fun i => by32 sd i) (by omega) (by omega) (by omega) (by omega) (by omega) (by rw [z4 854 1 (by omega) (by omega), e0 854 1 (by omega)]; exact c4) z1 (fun i u => by rw [z4 868 i (by omega) (by omega), e0 868 i (by omega)]; exact c3 i u) (fun i u => by rw [z4 855 _ (by omega) (by omega), e0 855 _ (by omega)]; exact ⟨c6 16 (by omega) (by omega) i u, by omega⟩) (fun i u => ⟨z2 i u, by32_lt _ _⟩)) ?_
          rintro rr1 M1 L2 ⟨t1, t2, t3, t4, t5⟩
          dsimp only at t1 t2 t3 t4 t5
          subst t1
          have hw2 : cmac S (schL S (fun i => 16 + i) 160) 4 (fun i => by32 sd i) = cm := hw
          rw [hw2] at t2
          rw [mck_s hc (by omega), sI_nn (by omega)]
          simp only [mlet]
          have e1 : ∀ a b, ¬ (a = 936 ∧ b = c) → a ≠ 858 → ¬ (a = 854 ∧ (b = 0 ∨ b = 6 ∨ b = 7)) → a ≠ 859 → ¬ (863 ≤ a ∧ a ≤ 867) → M1 a b = M a b := fun a b u1 u2 u3 u4 u5 => by
            rw [t5 a b u3 u4 u5, z4 a b u2 (by omega), e0 a b u1]
          refine wq_for (body := fun r z => fX19_serveKey_i103 fu (sI c) r z.1 z.2.1 z.2.2) (fun i (x : mwM) => (sI i, x, L2)) (fun i y => y 935 c = bI (pr4 x cm i) ∧ ∀ a b, ¬ (a = 935 ∧ b = c) → ¬ (a = 854 ∧ b = 0) → y a b = M1 a b) 4 ?_ ?_ 4 0 (mset M1 935 c (vp_nar .boolean 1)) fu (by omega) (by omega) ⟨by rw [mset_s]; rfl, fun a b u1 u2 => by rw [mset_n u1]⟩
          · intro i y r hi ⟨w1, w2⟩ ih
            show wq (fX19_serveKey_i103 fu (sI c) r (sI i) y L2) _
            unfold fX19_serveKey_i103 fX19_serveKey_b149 fX19_serveKey_b150
            rw [if_neg (by rw [sI_lle (by decide) (by omega)]; omega), mck_s hc (by omega), sI_nn (by omega), w1]
            cases hp : pr4 x cm i with
            | false =>
              rw [if_pos (show bI false = 0 from rfl), mck_s hc (by omega)]
              simp only [mlet]
              rw [sI_1]
              refine ih _ ⟨?_, fun a b u1 u2 => ?_⟩
              · rw [mset_s]
                unfold pr4
                rw [hp]
                rfl
              · rw [mset_n u1]; exact w2 a b u1 u2
            | true =>
              obtain ⟨z, q1, q2⟩ := m_out (fu := fu) (M := y) (L := L2) (i := i) (x := cm i) hi (by rw [w2 854 7 (by omega) (by omega)]; exact t4) (by rw [w2 859 i (by omega) (by omega)]; exact (t2 i hi).1) (t2 i hi).2
              have xi : M 932 (2 + i) = sI (x i) ∧ x i < 256 := by
                rw [← hx]
                exact (ho (2 + i) (by omega)).2
              rw [if_neg (show ¬ bI true = 0 by decide), q1, mb3_s, sI_lad, mck_s (by omega) (by omega), sI_nn (by omega), mset_n (show ¬ (932 = 854 ∧ 2 + i = 0) by omega), w2 932 _ (by omega) (by omega), e1 932 _ (by omega) (by omega) (by omega) (by omega) (by omega), xi.1, q2, mck_s hc (by omega)]
              simp only [mlet]
              rw [mck_s hc (by omega), sI_1]
              by_cases hq : x i = cm i
              · rw [if_pos (by rw [hq])]
                refine ih _ ⟨?_, fun a b u1 u2 => ?_⟩
                · rw [mset_s]
                  unfold pr4
                  rw [hp, hq, beq_self_eq_true]
                  rfl
                · rw [mset_n u1, mset_n u2]; exact w2 a b u1 u2
              · rw [if_neg (by rw [sI_eq (by have := (t2 i hi).2; omega) (by omega)]; omega)]
                refine ih _ ⟨?_, fun a b u1 u2 => ?_⟩
                · rw [mset_s]
                  unfold pr4
                  rw [hp, beq_false_of_ne hq]
                  rfl
                · rw [mset_n u1, mset_n u2]; exact w2 a b u1 u2
          · intro M2 r ⟨w1, w2⟩
            show wq (fX19_serveKey_i103 fu (sI c) r (sI 4) M2 L2) _
            unfold fX19_serveKey_i103 fX19_serveKey_b215
            rw [pr4_4, hr] at w1
            rw [if_pos (by decide), mck_s hc (by omega), sI_nn (by omega), w1, SvQ_m, show (0 : Int32).toNatClampNeg = 0 by decide, show (1 : Int32).toNatClampNeg = 1 by decide]
            have e2 : ∀ a b, ¬ (a = 935 ∧ b = c) → ¬ (a = 936 ∧ b = c) → a ≠ 858 → ¬ (a = 854 ∧ (b = 0 ∨ b = 6 ∨ b = 7)) → a ≠ 859 → ¬ (863 ≤ a ∧ a ≤ 867) → M2 a b = M a b := fun a b u0 u1 u2 u3 u4 u5 => by
              rw [w2 a b u0 (by omega), e1 a b u1 u2 u3 u4 u5]
            have g3 : M2 936 c = bI false := by
              rw [w2 936 c (by omega) (by omega), t5 936 c (by omega) (by omega) (by omega), z4 936 c (by omega) (by omega), ← hM0, mset_s]
              rfl
            have hC2 : RCd A2 M2 S := RCd_fr hC (fun a b u1 u2 => f2 a b (by omega) (by omega) (by omega) (by omega) (by omega)) (fun a b u => by
              by_cases hq : a = 854 ∧ b = 6
              · rw [hq.1, hq.2, w2 854 6 (by omega) (by omega), t3, c5]
              · exact e2 a b (by omega) (by omega) (by omega) (by omega) (by omega) (by omega))
            have hT2 : RTr A2 M2 N E := RTr_fr hT (fun a b u1 u2 => f2 a b (by omega) (by omega) (by omega) (by omega) (by omega)) (fun a b u1 u2 u3 => e2 a b (by omega) (by omega) (by omega) (by omega) (by omega) (by omega))
            have hB : ∀ A3 M3 : mwM, (∀ a b, ¬ (a = 280 ∧ b = c) → A3 a b = A2 a b) → (∀ a b, ¬ (a = 938 ∧ b = c) → M3 a b = M2 a b) → SvB X A L1 M L2 A3 L1 M3 L2 := fun A3 M3 i1 i2 => ⟨fun a b u => by rw [i1 a b (by omega)]; exact f2 a b (by omega) (by omega) (by omega) (by omega) (by omega), fun a b u u' => by rw [i2 a b (by omega)]; exact e2 a b (by omega) (by omega) (by omega) (by omega) (by omega) (by omega), Or.inl ⟨rfl, rfl⟩⟩
            have hQ2 : ∀ (A3 M3 : mwM) (w' : Nat), w' ≤ 3 → (∀ a b, ¬ (a = 280 ∧ b = c) → A3 a b = A2 a b) → (∀ a b, ¬ (a = 938 ∧ b = c) → M3 a b = M2 a b) → A3 280 c = sI w' → M3 938 c = sI w' → QuR A3 M3 := fun A3 M3 w' hw' i1 i2 i3 i4 => by
              refine QuR_1 (c := c) hQ ?_ (fun a y u1 u2 u3 => by rw [i1 a y (by omega)]; exact f2 a y (by omega) (by omega) (by omega) (by omega) (by omega)) (fun a y u1 u2 u3 => by rw [i2 a y (by omega)]; exact e2 a y (by omega) (by omega) (by omega) (by omega) (by omega) (by omega)) ⟨ses, w', rr, false, k1, k2, hw', ?_, ?_, ?_, ?_, ?_, ?_, (fun z => by cases z), i3, i4⟩
              · rw [i1 275 8 (by omega), f2 275 8 (by omega) (by omega) (by omega) (by omega) (by omega), i2 732 108 (by omega), e2 732 108 (by omega) (by omega) (by omega) (by omega) (by omega) (by omega)]
                exact hQ.1
              · rw [i1 276 c (by omega), f2 276 c (by omega) (by omega) (by omega) (by omega) (by omega)]; exact k4
              · rw [i2 934 c (by omega), e2 934 c (by omega) (by omega) (by omega) (by omega) (by omega) (by omega)]; exact k5
              · rw [i1 277 c (by omega)]; exact g2.1
              · rw [i2 935 c (by omega)]; exact w1
              · rw [i1 278 c (by omega)]; exact g2.2
              · rw [i2 936 c (by omega)]; exact g3
            have h72 : A2 275 7 = sI 0 := by rw [f2 275 7 (by omega) (by omega) (by omega) (by omega) (by omega)]; exact h7
            have m02 : M2 932 0 = sI 39 := by rw [e2 932 0 (by omega) (by omega) (by omega) (by omega) (by omega) (by omega)]; exact m0
            have k11' : A2 280 c = sI w := by rw [f2 280 c (by omega) (by omega) (by omega) (by omega) (by omega)]; exact k11
            have k12' : M2 938 c = sI w := by rw [e2 938 c (by omega) (by omega) (by omega) (by omega) (by omega) (by omega)]; exact k12
            cases rr with
            | true =>
              rw [if_neg (show ¬ bI true = 0 by decide), if_neg (show ¬ bI true = 0 by decide), c_put7 (n := 0) h72 (by omega), mb2_s, c_put7 (n := 1) mset_s (by omega), mb2_s]
              simp only [mlet]
              refine sv_end (A := A2) (M := M2) (sz := 2) (v := fun i => if i = 0 then 103 else 2) (hB A2 M2 (fun _ _ _ => rfl) (fun _ _ _ => rfl)) (hQ2 A2 M2 w k3 (fun _ _ _ => rfl) (fun _ _ _ => rfl) k11' k12') hT2 hC2 (fun a b u1 u2 => ?_) (fun a b u1 u2 u3 u4 => ?_) (by omega) mset_s (by rw [mset_s]; rfl) (fun i u => ?_)
              · simp (disch := omega) only [mset_n]
              · simp (disch := omega) only [mset_n]
              · rcases (show i = 0 ∨ i = 1 by omega) with rfl | rfl
                · simp (disch := omega) only [mset_n, mset_s]
                  exact ⟨show 103 < 256 by decide, rfl, rfl⟩
                · simp (disch := omega) only [mset_n, mset_s]
                  exact ⟨show 2 < 256 by decide, rfl, rfl⟩
            | false =>
              rw [if_pos (show bI false = 0 from rfl), if_pos (show bI false = 0 from rfl)]
              simp (disch := omega) only [mck_s, sI_nn, k11', k12', mset_s, sI_1, mb2_id, mlet]
              have hT3 : RTr (mset A2 280 c (sI (w + 1))) (mset M2 938 c (sI (w + 1))) N E := RTr_fr hT2 (fun a b u1 u2 => mset_n (by omega)) (fun a b u1 u2 u3 => mset_n (by omega))
              have hC3 : RCd (mset A2 280 c (sI (w + 1))) (mset M2 938 c (sI (w + 1))) S := RCd_fr hC2 (fun a b u1 u2 => mset_n (by omega)) (fun a b u => mset_n (by omega))
              have hB3 := hB (mset A2 280 c (sI (w + 1))) (mset M2 938 c (sI (w + 1))) (fun a b u => mset_n u) (fun a b u => mset_n u)
              have hQ3 := hQ2 (mset A2 280 c (sI (w + 1))) (mset M2 938 c (sI (w + 1))) (w + 1) (by omega) (fun a b u => mset_n u) (fun a b u => mset_n u) mset_s mset_s
              by_cases hq : w = 2
              · rw [if_neg (show ¬ sI (w + 1) < 3 by rw [sI_ltl (by omega) (by decide)]; omega), if_pos (show sI (w + 1) = 3 by rw [hq]; rfl)]
                exact st_no (x := 39) (w := 54) hB3 hQ3 hT3 hC3 (by rw [mset_n (by omega)]; exact h72) (by omega) (by omega) (by rw [mset_n (by omega)]; exact m02)
              · rw [if_pos (show sI (w + 1) < 3 by rw [sI_ltl (by omega) (by decide)]; omega), if_neg (show ¬ sI (w + 1) = 3 by rw [sI_eql (by omega) (by decide)]; omega)]
                exact st_no (x := 39) (w := 53) hB3 hQ3 hT3 hC3 (by rw [mset_n (by omega)]; exact h72) (by omega) (by omega) (by rw [mset_n (by omega)]; exact m02)
/-! questions: which one -/
theorem mk100_0 {β : Type} {x : Option β} : mck 0 100 x = x := mck_in (sI_in (k := 0) (by omega) (by omega))
theorem mk100_1 {β : Type} {x : Option β} : mck 1 100 x = x := mck_in (sI_in (k := 1) (by omega) (by omega))
theorem mk100_2 {β : Type} {x : Option β} : mck 2 100 x = x := mck_in (sI_in (k := 2) (by omega) (by omega))
theorem mzz_0 {β : Type} {x : Option β} : mzz 0 x = x := by unfold mzz; rw [if_pos (Or.inl rfl)]
theorem mzz_1 {β : Type} {x : Option β} : mzz 1 x = x := by unfold mzz; rw [if_pos (Or.inr rfl)]
theorem tz0 : (0 : Int32).toNatClampNeg = 0 := by decide
theorem tz1 : (1 : Int32).toNatClampNeg = 1 := by decide
theorem tz2 : (2 : Int32).toNatClampNeg = 2 := by decide
theorem SvQ_b {X N E : Nat} {S : Nat → Nat} {A A' M : mwM} {Lc Lm : mwL} {oc om : Option (mwM × mwL)} (h : svA A A') (hs : SvQ X N E S A' Lc M Lm oc om) : SvQ X N E S A Lc M Lm oc om := by
  obtain ⟨A1, L1, M1, L2, sz, v, e1, e2, ⟨b1, b2, b3⟩, r⟩ := hs
  exact ⟨A1, L1, M1, L2, sz, v, e1, e2, ⟨svA_t h b1, b2, b3⟩, r⟩
theorem ChO_fr {A A' M : mwM} {X : Nat} {own : Nat → Nat} (h : ChO A M X own) (hA : ∀ a y, 293 ≤ a → A' a y = A a y) : ChO A' M X own := by
  obtain ⟨h1, h2, h3, h4⟩ := h
  refine ⟨h1, h2, fun x u => ?_, fun x u1 u2 => ?_⟩
  · obtain ⟨q1, q2, q3⟩ := h3 x u
    exact ⟨q1, by rw [hA _ _ (by omega)]; exact q2, q3⟩
  · rw [hA _ _ (by omega)]; exact h4 x u1 u2
theorem KnC_fr {A A' : mwM} {S : Nat → Nat} {key : Nat} (h : KnC A S key) (hk : key < 17) (hA : ∀ a y, 101 ≤ a → a ≤ 136 → A' a y = A a y) : KnC A' S key := by
  obtain ⟨q1, q2, q3⟩ := h
  refine ⟨by rw [hA 136 key (by omega) (by omega)]; exact q1, fun i w => ?_, fun i w => ?_⟩
  · rw [hA _ i (by omega) (by omega)]; exact q2 i w
  · rw [hA _ i (by omega) (by omega)]; exact q3 i w
theorem st_serve {fu X N E c row n : Nat} {own : Nat → Nat} {S : Nat → Nat} {A M : mwM} {Lc Lm : mwL} {o : Nat → Nat} (hf : 200 ≤ fu) (hc : c < 6) (hE : E < 900000000) (hQ : QuR A M) (hT : RTr A M N E) (hC : RCd A M S) (hK : KnC A S 16) (hO : ChO A M X own) (hD : DtR Lc Lm X) (hrow : row < 275) (hrow2 : 153 < row) (hn : 1 ≤ n) (hn2 : n < 1000) (ho : ∀ i, i < n → A row i = sI (o i) ∧ M 932 i = sI (o i) ∧ o i < 256) : SvQ X N E S A Lc M Lm (DX7_makeReply fu (sI c) row 100 (sI n) A Lc) (DX19_serve fu (sI c) (sI n) M Lm) := by
  unfold DX7_makeReply fX7_makeReply_b155 fX7_makeReply_b189 DX7_isKnown fX7_isKnown_b36 fX7_isKnown_b41 DX7_isRightLength fX7_isRightLength_b119 fX7_isRightLength_b90 fX7_isRightLength_b107 fX7_isRightLength_b103 fX7_isRightLength_b108 fX7_isRightLength_b77 fX7_isRightLength_b65 fX7_isRightLength_b54 DX19_serve fX19_serve_b50 fX19_serve_b55 fX19_serve_b68 fX19_serve_b73 fX19_serve_b100 fX19_serve_b101 fX19_serve_b129 fX19_serve_b130 fX19_serve_b180 fX19_serve_b171 fX19_serve_b266
  simp only [mlet, mb2_id, mk100_0, mk100_1, mk100_2, mzz_0, mzz_1, tz0, tz1, tz2, mb3_s]
  generalize hA' : mset A 275 7 0 = A'
  have fA : ∀ a y, ¬ (a = 275 ∧ y = 7) → A' a y = A a y := fun a y u => by rw [← hA', mset_n u]
  refine SvQ_b (A' := A') (fun a y u => fA a y (by omega)) ?_
  have ho' : ∀ i, i < n → A' row i = sI (o i) ∧ M 932 i = sI (o i) ∧ o i < 256 := fun i u => by rw [fA row i (by omega)]; exact ho i u
  have hQ' : QuR A' M := QuR_fr hQ (fun a y u => fA a y (by omega)) (fun _ _ _ => rfl)
  have hT' : RTr A' M N E := RTr_fr hT (fun a y u1 u2 => fA a y (by omega)) (fun _ _ _ _ _ => rfl)
  have hC' : RCd A' M S := RCd_fr hC (fun a y u1 u2 => fA a y (by omega)) (fun _ _ _ => rfl)
  have hK' : KnC A' S 16 := KnC_fr hK (by omega) (fun a y u1 u2 => fA a y (by omega))
  have hO' : ChO A' M X own := ChO_fr hO (fun a y u => fA a y (by omega))
  have h7 : A' 275 7 = sI 0 := by rw [← hA', mset_s]; rfl
  clear hQ hT hC hK hO
  obtain ⟨p0, m0, v0⟩ := ho' 0 (by omega)
  by_cases s16 : o 0 = 16
  · rw [s16] at p0 m0
    have p0' : A' row 0 = 16 := p0
    have m0' : M 932 0 = 16 := m0
    simp (decide := true) only [p0', m0', ite_true, ite_false, mb3_s, mzz_1, mzz_0]
    by_cases hq : n = 2
    · subst hq
      obtain ⟨p1, m1, v1⟩ := ho' 1 (by omega)
      simp (decide := true) only [show sI 2 = 2 from rfl, ite_true, ite_false, mb3_s, p0', p1]
      exact st_session hc hQ' hT' hC' h7 v1 m0 m1
    · simp (decide := true) only [show ¬ sI n = 2 by rw [sI_eql (by omega) (by decide)]; exact hq, ite_true, ite_false, mb3_s, p0']
      exact st_no (x := 16) (w := 19) SvB_0 hQ' hT' hC' h7 (by omega) (by omega) m0
  · by_cases s34 : o 0 = 34
    · rw [s34] at p0 m0
      have p0' : A' row 0 = 34 := p0
      have m0' : M 932 0 = 34 := m0
      simp (decide := true) only [p0', m0', ite_true, ite_false, mb3_s, mzz_1, mzz_0]
      by_cases hq : n = 3
      · subst hq
        obtain ⟨p1, m1, v1⟩ := ho' 1 (by omega)
        obtain ⟨p2, m2, v2⟩ := ho' 2 (by omega)
        simp (decide := true) only [show sI 3 = 3 from rfl, ite_true, ite_false, mb3_s, p0', p1, p2]
        exact st_read (by omega) hc hQ' hT' hC' hO' hD h7 v1 v2 m0 m1 m2
      · simp (decide := true) only [show ¬ sI n = 3 by rw [sI_eql (by omega) (by decide)]; exact hq, ite_true, ite_false, mb3_s, p0']
        exact st_no (x := 34) (w := 19) SvB_0 hQ' hT' hC' h7 (by omega) (by omega) m0
    · by_cases s46 : o 0 = 46
      · rw [s46] at p0 m0
        have p0' : A' row 0 = 46 := p0
        have m0' : M 932 0 = 46 := m0
        simp (decide := true) only [p0', m0', ite_true, ite_false, mb3_s, mzz_1, mzz_0]
        by_cases hq : n = 11
        · subst hq
          simp (decide := true) only [show sI 11 = 11 from rfl, ite_true, ite_false, mb3_s, p0']
          exact st_write (by omega) hc hQ' hT' hC' hO' h7 hrow ho' s46 rfl rfl
        · simp (decide := true) only [show ¬ sI n = 11 by rw [sI_eql (by omega) (by decide)]; exact hq, ite_true, ite_false, mb3_s, p0']
          exact st_no (x := 46) (w := 19) SvB_0 hQ' hT' hC' h7 (by omega) (by omega) m0
      · by_cases s25 : o 0 = 25
        · rw [s25] at p0 m0
          have p0' : A' row 0 = 25 := p0
          have m0' : M 932 0 = 25 := m0
          simp (decide := true) only [p0', m0', ite_true, ite_false, mb3_s, mzz_1, mzz_0]
          by_cases hq : n = 1
          · subst hq
            simp (decide := true) only [show sI 1 = 1 from rfl, ite_true, ite_false, mb3_s, p0']
            exact st_list (by omega) hE hQ' hT' hC' h7
          · simp (decide := true) only [show ¬ sI n = 1 by rw [sI_eql (by omega) (by decide)]; exact hq, ite_true, ite_false, mb3_s, p0']
            exact st_no (x := 25) (w := 19) SvB_0 hQ' hT' hC' h7 (by omega) (by omega) m0
        · by_cases s20 : o 0 = 20
          · rw [s20] at p0 m0
            have p0' : A' row 0 = 20 := p0
            have m0' : M 932 0 = 20 := m0
            simp (decide := true) only [p0', m0', ite_true, ite_false, mb3_s, mzz_1, mzz_0]
            by_cases hq : n = 1
            · subst hq
              simp (decide := true) only [show sI 1 = 1 from rfl, ite_true, ite_false, mb3_s, p0']
              have := st_forget (X := X) (Lc := Lc) (Lm := Lm) (show 31 ≤ fu by omega) hQ' hT' hC' h7
              simp only [mb2_id] at this
              exact this
            · simp (decide := true) only [show ¬ sI n = 1 by rw [sI_eql (by omega) (by decide)]; exact hq, ite_true, ite_false, mb3_s, p0']
              exact st_no (x := 20) (w := 19) SvB_0 hQ' hT' hC' h7 (by omega) (by omega) m0
          · by_cases s39 : o 0 = 39
            · rw [s39] at p0 m0
              have p0' : A' row 0 = 39 := p0
              have m0' : M 932 0 = 39 := m0
              simp (decide := true) only [p0', m0', ite_true, ite_false, mb3_s, mzz_1, mzz_0]
              by_cases hq : n = 2
              · subst hq
                obtain ⟨p1, m1, v1⟩ := ho' 1 (by omega)
                simp (decide := true) only [show sI 2 = 2 from rfl, ite_true, ite_false, mb3_s, p0', p1, m1]
                by_cases hr : o 1 = 1
                · simp (decide := true) only [show sI (o 1) = 1 by rw [hr]; rfl, ite_true, ite_false, mb3_s, p0', p1]
                  exact st_seed (by omega) hc hQ' hT' hC' h7 m0
                · simp (decide := true) only [show ¬ sI (o 1) = 1 by rw [sI_eql (by omega) (by decide)]; exact hr, ite_true, ite_false, mb3_s, p0', p1]
                  exact st_no (x := 39) (w := 19) SvB_0 hQ' hT' hC' h7 (by omega) (by omega) m0
              · by_cases hq6 : n = 6
                · subst hq6
                  obtain ⟨p1, m1, v1⟩ := ho' 1 (by omega)
                  simp (decide := true) only [show sI 6 = 6 from rfl, ite_true, ite_false, mb3_s, p0', p1, m1]
                  by_cases hr : o 1 = 2
                  · simp (decide := true) only [show sI (o 1) = 2 by rw [hr]; rfl, ite_true, ite_false, mb3_s, p0', p1]
                    exact st_key hf hc hQ' hT' hC' hK' h7 hrow hrow2 ho' s39
                  · simp (decide := true) only [show ¬ sI (o 1) = 2 by rw [sI_eql (by omega) (by decide)]; exact hr, ite_true, ite_false, mb3_s, p0', p1]
                    exact st_no (x := 39) (w := 19) SvB_0 hQ' hT' hC' h7 (by omega) (by omega) m0
                · simp (decide := true) only [show ¬ sI n = 2 by rw [sI_eql (by omega) (by decide)]; exact hq, show ¬ sI n = 6 by rw [sI_eql (by omega) (by decide)]; exact hq6, ite_true, ite_false, mb3_s, p0']
                  exact st_no (x := 39) (w := 19) SvB_0 hQ' hT' hC' h7 (by omega) (by omega) m0
            · have n16 : ¬ sI (o 0) = 16 := by rw [sI_eql (by omega) (by decide)]; exact s16
              have n34 : ¬ sI (o 0) = 34 := by rw [sI_eql (by omega) (by decide)]; exact s34
              have n46 : ¬ sI (o 0) = 46 := by rw [sI_eql (by omega) (by decide)]; exact s46
              have n25 : ¬ sI (o 0) = 25 := by rw [sI_eql (by omega) (by decide)]; exact s25
              have n20 : ¬ sI (o 0) = 20 := by rw [sI_eql (by omega) (by decide)]; exact s20
              have n39 : ¬ sI (o 0) = 39 := by rw [sI_eql (by omega) (by decide)]; exact s39
              simp (decide := true) only [p0, m0, n16, n34, n46, n25, n20, n39, ite_true, ite_false, mb3_s, mzz_1, mzz_0]
              exact st_no (w := 17) SvB_0 hQ' hT' hC' h7 v0 (by omega) m0
