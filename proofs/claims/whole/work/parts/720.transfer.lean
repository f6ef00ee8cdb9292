/-! the reference: a frame is received; what may be read -/
theorem T_rv {f : Nat} {p : PB} (hv : TfV p.1 p.2) (hf : f < p.1 0 1) (h : TfT p.1 (p.1 0 3)) : TfT (rvQ f p).1.1 (p.1 0 3) := by
  have hr4 : p.1 11 f % 4 < 4 := Nat.mod_lt _ (by omega)
  have gen : ∀ n' : Nat → Nat → Nat, (∀ j, n' 3 j = 1 → p.1 3 j = 1 ∧ n' 4 j = p.1 4 j) → n' 0 0 = p.1 0 0 → (∀ r, r < 4 → n' 5 r = 1 → (p.1 5 r = 1 ∧ n' 9 r = p.1 9 r) ∨ n' 9 r = p.1 0 3) → TfT n' (p.1 0 3) := by
    intro n' c1 c2 c3
    refine ⟨fun m u1 u2 z => ?_, fun r u z => ?_⟩
    · rw [c2] at u2
      have := c1 m z
      rw [this.2]
      exact h.1 m u1 u2 this.1
    · rcases c3 r u z with ⟨d1, d2⟩ | d
      · rw [d2]; exact h.2 r u d1
      · rw [d]; omega
  unfold rvQ nxQ
  by_cases k3 : p.1 10 f = 3
  · rw [if_pos k3]
    dsimp only
    split
    · refine gen _ (fun j z => ?_) (by dsimp only; rw [mset_n (by omega)]) (fun r u z => ?_)
      · dsimp only at z ⊢
        rw [mset_n (by omega)]
        by_cases hq : j = p.1 11 f
        · rw [hq, mset_s] at z; omega
        · rw [mset_j hq] at z; exact ⟨z, rfl⟩
      · dsimp only at z ⊢
        rw [mset_n (by omega)] at z
        rw [mset_n (by omega)]
        exact Or.inl ⟨z, rfl⟩
    · exact h
  · rw [if_neg k3]
    generalize p.1 11 f % 4 = r0 at *
    by_cases k2 : p.1 10 f = 2
    · rw [if_pos k2]
      split
      · split
        · split
          · refine gen _ (fun j z => ?_) ?_ (fun r u z => ?_)
            · dsimp only at z ⊢
              unfold gtN at z ⊢
              rw [mset_n (by omega), mset_n (by omega), mset_n (by omega)] at z
              rw [mset_n (by omega), mset_n (by omega), mset_n (by omega)]
              exact ⟨z, rfl⟩
            · dsimp only
              unfold gtN
              rw [mset_n (by omega), mset_n (by omega), mset_n (by omega)]
            · dsimp only at z ⊢
              unfold gtN at z ⊢
              rw [mset_n (by omega), mset_n (by omega), mset_n (by omega)] at z
              by_cases hq : r = r0
              · rw [hq, mset_s]; exact Or.inr rfl
              · rw [mset_j hq, mset_n (by omega), mset_n (by omega)]
                exact Or.inl ⟨z, rfl⟩
          · refine gen _ (fun j z => ?_) (by dsimp only; rw [mset_n (by omega)]) (fun r u z => ?_)
            · dsimp only at z ⊢
              rw [mset_n (by omega)] at z
              rw [mset_n (by omega)]
              exact ⟨z, rfl⟩
            · dsimp only at z ⊢
              rw [mset_n (show ¬ (9 = 5 ∧ r = r0) by omega)]
              by_cases hq : r = r0
              · rw [hq, mset_s] at z; omega
              · rw [mset_j hq] at z
                exact Or.inl ⟨z, rfl⟩
        · refine gen _ (fun j z => ?_) (by dsimp only; rw [mset_n (by omega)]) (fun r u z => ?_)
          · dsimp only at z ⊢
            rw [mset_n (by omega)] at z
            rw [mset_n (by omega)]
            exact ⟨z, rfl⟩
          · dsimp only at z ⊢
            rw [mset_n (show ¬ (9 = 5 ∧ r = r0) by omega)]
            by_cases hq : r = r0
            · rw [hq, mset_s] at z; omega
            · rw [mset_j hq] at z
              exact Or.inl ⟨z, rfl⟩
      · exact h
    · rw [if_neg k2]
      split
      · refine gen _ (fun j z => ?_) (by dsimp only; rw [mset_n (by omega)]) (fun r u z => ?_)
        · dsimp only at z ⊢
          rw [mset_n (by omega)] at z
          rw [mset_n (by omega)]
          exact ⟨z, rfl⟩
        · dsimp only at z ⊢
          rw [mset_n (show ¬ (9 = 5 ∧ r = r0) by omega)]
          by_cases hq : r = r0
          · rw [hq, mset_s] at z; omega
          · rw [mset_j hq] at z
            exact Or.inl ⟨z, rfl⟩
      · dsimp only
        unfold fsP fsN
        dsimp only
        refine gen _ (fun j z => ?_) ?_ (fun r u z => ?_)
        · rw [mk_r (by omega) (by omega)] at z ⊢
          rw [mset_n (by omega), mset_n (by omega), mset_n (by omega), mset_n (by omega), mset_n (by omega)] at z
          rw [mset_n (by omega), mset_n (by omega), mset_n (by omega), mset_n (by omega), mset_n (by omega)]
          exact ⟨z, rfl⟩
        · rw [mk_r (by omega) (by omega), mset_n (by omega), mset_n (by omega), mset_n (by omega), mset_n (by omega), mset_n (by omega)]
        · rw [mk_r (by omega) (by omega)] at z ⊢
          by_cases hq : r = p.1 11 f % 4
          · rw [hq, mset_s]; exact Or.inr rfl
          · rw [mset_n (by omega), mset_n (by omega), mset_n (by omega), mset_n (by omega), mset_j hq] at z
            rw [mset_j hq, mset_n (by omega), mset_n (by omega), mset_n (by omega), mset_n (by omega)]
            exact Or.inl ⟨z, rfl⟩
theorem m_receive17 {fu f : Nat} {M : mwM} {L : mwL} {p : PB} {o : Nat → Nat → Nat} {e : Nat → Nat} (hfu : 200 ≤ fu) (hv : TfV p.1 p.2) (h : TfM M L (p.1 0 3) p.1 p.2 o e) (hf : f < p.1 0 1) (hg : p.2 1 f = false) : wq (DX17_receive fu (sI (f + 1)) M L) (fun z => ∃ e', TfM z.2.1 z.2.2 (p.1 0 3) (rvQ f (p.1, mset p.2 1 f true)).1.1 (rvQ f (p.1, mset p.2 1 f true)).1.2 o e' ∧ eQ 1 e p.2 e' (rvQ f (p.1, mset p.2 1 f true)).1.2 ∧ rvM z.2.1 p.1 o (rvQ f (p.1, mset p.2 1 f true)).2 e e' ∧ rFr M z.2.1 ∧ rFl L z.2.2) := by
  have hF := Tf_F hv
  have tf := h.2.2.2.2.2.1 f hf
  have hvi := hv.2.2.2 f hf
  have vg := V_gone (f := f) hv
  have hvr : TfV (rvQ f (p.1, mset p.2 1 f true)).1.1 (rvQ f (p.1, mset p.2 1 f true)).1.2 := V_rv (p := (p.1, mset p.2 1 f true)) vg (by dsimp only; omega) (fun k1 => ⟨by dsimp only; rw [mset_n (by omega)]; exact (hvi.2.2.2.2.2.2.2.2 k1).1 hg, mset_s⟩)
  have hF1 : p.1 0 1 < 1600 ∨ p.1 10 f ≠ 1 := by
    by_cases k1 : p.1 10 f = 1
    · left
      have := Tf_F hvr
      have e : (rvQ f (p.1, mset p.2 1 f true)).1.1 0 1 = p.1 0 1 + 1 := by
        unfold rvQ
        dsimp only
        rw [if_neg (by omega), if_neg (by omega), if_neg (by omega)]
        unfold fsP fsN
        dsimp only
        rw [mk_F]
        simp (disch := omega) only [mset_n]
      rw [e] at this
      omega
    · exact Or.inr k1
  have T : TfM (mset (mset M 869 0 0) 898 (f + 1) 1) L (p.1 0 3) p.1 (mset p.2 1 f true) o e := by
    refine TfM_ch h (fun a y u => by rw [mset_n (by omega), mset_n (by omega)]) h.1.2.1 (fun _ _ _ _ => rfl) (fun x u v => ?_) (fun x u v => ?_) (fun r u => ?_) (fun g u => ?_) (fun k u => ?_)
    · have t := (h.2.2.1 x u v).2
      unfold TmS at t ⊢
      simp (disch := omega) only [mset_n]
      exact t
    · have t := h.2.2.2.1 x u v
      simp (disch := omega) only [mset_n]
      exact t
    · have t := h.2.2.2.2.1 r u
      unfold TmR at t ⊢
      simp (disch := omega) only [mset_n]
      exact t
    · by_cases hq : g = f
      · rw [hq, mset_s, mset_s]; rfl
      · rw [mset_j (by omega), mset_j hq, mset_n (by omega)]
        exact (h.2.2.2.2.2.1 g u).2.2.2.2.2.1
    · simp (disch := omega) only [mset_n]
      exact h.2.2.2.2.2.2 k u
  unfold DX17_receive fX17_receive_b62
  simp only [mlet]
  rw [if_neg (by rw [sI_ltl (by omega) (by decide)]; omega), mset_n (show ¬ (869 = 869 ∧ 26 = 0) by omega), h.1.2.2.2.1, if_pos (by rw [sI_le (by omega) (by omega)]; omega), mck_s (by omega) (by omega), sI_nn (by omega), mset_n (show ¬ (898 = 869 ∧ f + 1 = 0) by omega), tf.2.2.2.2.2.1, hg, if_pos (show bI false = 0 from rfl), mck_s (by omega) (by omega), mck_s (by omega) (by omega), show vp_nar .boolean 1 = 1 by decide]
  have e892 : mset (mset M 869 0 0) 898 (f + 1) 1 892 (f + 1) = sI (p.1 10 f) := by rw [mset_n (by omega), mset_n (by omega), tf.1]
  rw [e892]
  by_cases k3 : p.1 10 f = 3
  · rw [if_pos (show sI (p.1 10 f) = 3 by rw [k3]; rfl)]
    refine wq_b3 (m_takeFlow17 (p := (p.1, mset p.2 1 f true)) vg T hf k3) ?_
    rintro r1 M1 L1 ⟨q1, q2, q3, q4, q5⟩
    dsimp only at q1 q2 q3 q4 q5
    refine wq_some ⟨e, q1, ⟨Nat.le_refl _, by omega, ?_⟩, ⟨fun _ => rfl, fun z => absurd q2 z⟩, fun a y u => ?_, q5⟩
    · rw [q3, decide_eq_false (by omega), Bool.or_false, mset_n (by omega)]
    · dsimp only
      rw [q4 a y u, mset_n (by omega), mset_n (by omega)]
  · rw [if_neg (show ¬ sI (p.1 10 f) = 3 by rw [sI_eql (by omega) (by decide)]; exact k3)]
    refine wq_b3 (m_take17 (p := (p.1, mset p.2 1 f true)) hfu vg hF1 T hf k3) ?_
    rintro r1 M1 L1 ⟨e1, q1, q2, q3, q4, q5⟩
    dsimp only at q1 q2 q3 q4 q5
    refine wq_some ⟨e1, q1, ?_, q3, fun a y u => ?_, q5⟩
    · obtain ⟨x1, x2, x3⟩ := q2
      rw [mset_n (by omega)] at x3
      exact ⟨x1, x2, x3⟩
    · dsimp only
      rw [q4 a y u, mset_n (by omega), mset_n (by omega)]
/-! reading -/
theorem m_frameA {fu f w : Nat} {M : mwM} {L : mwL} {τ : Nat} {n : Nat → Nat → Nat} {b : Nat → Nat → Bool} {o : Nat → Nat → Nat} {e : Nat → Nat} (hv : TfV n b) (h : TfM M L τ n b o e) (hf : f < n 0 1) (hw : w ≤ 5) (hw4 : w ≠ 4) : DX17_frame fu (sI (f + 1)) (sI w) M L = some (if w = 0 then sI (n 10 f) else if w = 1 then sI (n 11 f) else if w = 2 then sI (nuO n f) else if w = 3 then sI (coO n f) else sI 0, mset M 869 0 0, L) := by
  have hF := Tf_F hv
  have tf := h.2.2.2.2.2.1 f hf
  unfold DX17_frame fX17_frame_b18 fX17_frame_b91 fX17_frame_b167
  simp only [mlet]
  rw [if_neg (show ¬ sI (f + 1) = 0 by rw [sI_eql (by omega) (by decide)]; omega), if_neg (show ¬ sI (f + 1) < 1 by rw [sI_ltl (by omega) (by decide)]; omega), mset_n (show ¬ (869 = 869 ∧ 26 = 0) by omega), h.1.2.2.2.1, if_pos (by rw [sI_le (by omega) (by omega)]; omega), if_pos (show sI w < 8 by rw [sI_ltl (by omega) (by decide)]; omega)]
  simp (disch := omega) only [mck_s, sI_nn, mset_n]
  rw [tf.1, tf.2.1, tf.2.2.1, tf.2.2.2.1, tf.2.2.2.2.1]
  rcases (show w = 0 ∨ w = 1 ∨ w = 2 ∨ w = 3 ∨ w = 5 by omega) with rfl | rfl | rfl | rfl | rfl
  · rw [if_pos (show sI 0 = 0 from rfl), if_pos rfl]
  · rw [if_neg (show ¬ sI 1 = 0 by decide), if_pos (show sI 1 = 1 from rfl)]
    rfl
  · rw [if_neg (show ¬ sI 2 = 0 by decide), if_neg (show ¬ sI 2 = 1 by decide), if_pos (show sI 2 = 2 from rfl)]
    rfl
  · rw [if_neg (show ¬ sI 3 = 0 by decide), if_neg (show ¬ sI 3 = 1 by decide), if_neg (show ¬ sI 3 = 2 by decide), if_pos (show sI 3 = 3 from rfl)]
    rfl
  · rw [if_neg (show ¬ sI 5 = 0 by decide), if_neg (show ¬ sI 5 = 1 by decide), if_neg (show ¬ sI 5 = 2 by decide), if_neg (show ¬ sI 5 = 3 by decide), if_neg (show ¬ sI 5 = 4 by decide), if_pos (show sI 5 = 5 from rfl)]
    rfl
theorem m_frame0 {fu : Nat} {M : mwM} {L : mwL} {τ : Nat} {n : Nat → Nat → Nat} {b : Nat → Nat → Bool} {o : Nat → Nat → Nat} {e : Nat → Nat} (h : TfM M L τ n b o e) : DX17_frame fu 0 0 M L = some (sI (n 0 1), mset M 869 0 0, L) := by
  unfold DX17_frame
  simp only [mlet]
  rw [if_pos trivial, if_pos trivial, mset_n (show ¬ (869 = 869 ∧ 26 = 0) by omega), h.1.2.2.2.1]
theorem m_frameO {fu f i : Nat} {M : mwM} {L : mwL} {τ : Nat} {n : Nat → Nat → Nat} {b : Nat → Nat → Bool} {o : Nat → Nat → Nat} {e : Nat → Nat} (hv : TfV n b) (h : TfM M L τ n b o e) (hf : f < n 0 1) (hi : i < 7) (hk : n 10 f ≠ 3) : DX17_frame fu (sI (f + 1)) (sI (8 + i)) M L = some (sI (wrO n o f (i + 1)), mset M 869 0 0, L) := by
  have hF := Tf_F hv
  have tf := h.2.2.2.2.2.1 f hf
  have hg := hv.2.2.2 f hf
  have hc7 := co_le (TfV_W.mp hv).1 hf
  have to := (h.2.2.1 _ hg.2.1 hg.2.2.1).1
  have wi : wrO n o f (i + 1) = if i < coO n f then o (n 11 f) (frO (n 10 f) (n 12 f) + i) else 0 := by
    show (if i < moO (n 10 f) ∧ frO (n 10 f) (n 12 f) + i < n 2 (n 11 f) then o (n 11 f) (frO (n 10 f) (n 12 f) + i) else 0) = _
    have iff : (i < moO (n 10 f) ∧ frO (n 10 f) (n 12 f) + i < n 2 (n 11 f)) ↔ i < coO n f := by
      unfold moO coO frO
      rcases (show n 10 f = 0 ∨ n 10 f = 1 ∨ n 10 f = 2 by omega) with k | k | k
      · have := hg.2.2.2.2.1 k
        rw [k]
        simp
        omega
      · have := hg.2.2.2.2.2.1 (by omega)
        rw [k]
        simp
        omega
      · have := hg.2.2.2.2.2.2.1 k
        rw [k]
        simp
        split <;> omega
    by_cases hc : i < coO n f
    · rw [if_pos (iff.mpr hc), if_pos hc]
    · rw [if_neg (fun z => hc (iff.mp z)), if_neg hc]
  unfold DX17_frame fX17_frame_b18 fX17_frame_b89 fX17_frame_b90
  simp only [mlet]
  rw [if_neg (show ¬ sI (f + 1) = 0 by rw [sI_eql (by omega) (by decide)]; omega), if_neg (show ¬ sI (f + 1) < 1 by rw [sI_ltl (by omega) (by decide)]; omega), mset_n (show ¬ (869 = 869 ∧ 26 = 0) by omega), h.1.2.2.2.1, if_pos (by rw [sI_le (by omega) (by omega)]; omega), if_neg (show ¬ sI (8 + i) < 8 by rw [sI_ltl (by omega) (by decide)]; omega), if_neg (show ¬ 15 ≤ sI (8 + i) by rw [sI_lle (by decide) (by omega)]; omega)]
  rw [show (7 : Int32) * sI (f + 1) = sI (7 * (f + 1)) from sI_lml, sI_add, show sI (7 * (f + 1) + (8 + i)) - 8 = sI (7 * (f + 1) + (8 + i) - 8) from sI_sub (b := 8) (by omega), show sI (8 + i) - 8 = sI (8 + i - 8) from sI_sub (b := 8) (by omega), show 8 + i - 8 = i by omega, show 7 * (f + 1) + (8 + i) - 8 = 7 * (f + 1) + i by omega]
  simp (disch := omega) only [mck_s, sI_nn, mset_n]
  rw [tf.1, tf.2.2.2.1, if_neg (show ¬ 3 ≤ sI (n 10 f) by rw [sI_lle (by decide) (by omega)]; omega)]
  rw [wi]
  by_cases hc : i < coO n f
  · have hlt : frO (n 10 f) (n 12 f) + i < n 2 (n 11 f) := by
      unfold coO at hc
      unfold frO
      rcases (show n 10 f = 0 ∨ n 10 f = 1 ∨ n 10 f = 2 by omega) with k | k | k
      · rw [k] at hc ⊢
        simp at hc ⊢
        omega
      · have := hg.2.2.2.2.2.1 (by omega)
        rw [k] at hc ⊢
        simp at hc ⊢
        omega
      · rw [k] at hc ⊢
        simp [frO] at hc ⊢
        split at hc <;> omega
    rw [if_neg (by rw [sI_le (by omega) (by omega)]; omega), if_pos hc, tf.2.2.2.2.2.2 i hc, sB_a _ (to _ hlt).2]
  · rw [if_pos (by rw [sI_le (by omega) (by omega)]; omega), if_neg hc]
    rfl
theorem m_ended17 {fu k : Nat} {M : mwM} {L : mwL} {τ : Nat} {n : Nat → Nat → Nat} {b : Nat → Nat → Bool} {o : Nat → Nat → Nat} {e : Nat → Nat} (h : TfM M L τ n b o e) (hk : k < 8) : DX17_ended fu (sI k) M L = some (sI (e k), mset M 869 0 0, L) := by
  unfold DX17_ended fX17_ended_b26
  simp only [mlet]
  rw [if_neg (by rw [sI_ltl (by omega) (by decide)]; omega), if_pos (by rw [sI_lel (by omega) (by decide)]; omega), mck_s (by omega) (by omega), sI_nn (by omega), mset_n (by omega), h.2.2.2.2.2.2 k hk]
theorem m_got17 {fu j sz x : Nat} {M : mwM} {L : mwL} (hj : j < sz) (hs : sz ≤ 100) (h40 : M 869 40 = sI sz) (h900 : M 900 j = sB x) (hx : x < 256) : DX17_got fu (sI j) M L = some (sB x, mset M 869 0 0, L) := by
  unfold DX17_got fX17_got_b18 fX17_got_b38
  rw [if_neg (by rw [sI_ltl (by omega) (by decide)]; omega), h40, if_pos (by rw [sI_lt (by omega) (by omega)]; exact hj)]
  simp only [mlet]
  rw [mset_s, if_pos (by decide), mck_s (by omega) (by omega), sI_nn (by omega), mset_n (by omega), h900]
  unfold mbb
  rw [if_pos (sB_b x hx)]
theorem m_lose17 {fu f : Nat} {M : mwM} {L : mwL} {p : PB} {τ : Nat} {o : Nat → Nat → Nat} {e : Nat → Nat} (hv : TfV p.1 p.2) (h : TfM M L τ p.1 p.2 o e) (hf : f < p.1 0 1) (hg : p.2 1 f = false) : wq (DX17_lose fu (sI (f + 1)) M L) (fun z => TfM z.2.1 z.2.2 τ p.1 (mset p.2 1 f true) o e ∧ z.2.2 = L ∧ ∀ a y, ¬ (a = 869 ∨ a = 898) → z.2.1 a y = M a y) := by
  have hF := Tf_F hv
  have tf := h.2.2.2.2.2.1 f hf
  unfold DX17_lose fX17_lose_b31 fX17_lose_b32 fX17_lose_b44
  simp only [mlet]
  rw [if_neg (by rw [sI_ltl (by omega) (by decide)]; omega), mset_n (show ¬ (869 = 869 ∧ 26 = 0) by omega), h.1.2.2.2.1, if_neg (by rw [sI_lt (by omega) (by omega)]; omega), mck_s (by omega) (by omega), sI_nn (by omega), mset_n (show ¬ (898 = 869 ∧ f + 1 = 0) by omega), tf.2.2.2.2.2.1, hg, if_pos (show bI false = 0 from rfl), if_neg (show ¬ (1 : Int32) = 0 by decide), mck_s (by omega) (by omega), show vp_nar .boolean 1 = 1 by decide]
  unfold mzz
  rw [if_pos (by decide)]
  refine wq_some ⟨?_, rfl, fun a y u => by dsimp only; rw [mset_n (by omega), mset_n (by omega)]⟩
  dsimp only
  refine TfM_ch h (fun a y u => by rw [mset_n (by omega), mset_n (by omega)]) h.1.2.1 (fun _ _ _ _ => rfl) (fun x u v => ?_) (fun x u v => ?_) (fun r u => ?_) (fun g u => ?_) (fun k u => ?_)
  · have t := (h.2.2.1 x u v).2
    unfold TmS at t ⊢
    simp (disch := omega) only [mset_n]
    exact t
  · have t := h.2.2.2.1 x u v
    simp (disch := omega) only [mset_n]
    exact t
  · have t := h.2.2.2.2.1 r u
    unfold TmR at t ⊢
    simp (disch := omega) only [mset_n]
    exact t
  · by_cases hq : g = f
    · rw [hq, mset_s, mset_s]; rfl
    · rw [mset_j (by omega), mset_j hq, mset_n (by omega)]
      exact (h.2.2.2.2.2.1 g u).2.2.2.2.2.1
  · simp (disch := omega) only [mset_n]
    exact h.2.2.2.2.2.2 k u
