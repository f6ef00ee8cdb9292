/-! the reference's search: its steps -/
theorem SR_c {M0 M : mwM} {k F0 m i u : Nat} {gl zr ch ch' : Nat → Nat} (h : SR M0 M k F0 m gl zr ch i u) (hu : u ≤ i) (hc : ∀ j, j < i → ch j = ch' j) : SR M0 M k F0 m gl zr ch' i u := by
  obtain ⟨r1, r2, r3, r4, r5, r6, r7⟩ := h
  refine ⟨r1, r2, fun j hj => ?_, r4, r5, fun j hj => ?_, fun j hj => ?_⟩
  · rw [← hc j hj, ← fil_c (ch := ch) (ch' := ch') (fun x hx => hc x (by omega))]
    exact r3 j hj
  · rw [← opn_c hc] at hj
    exact r6 j hj
  · rw [← hc j (by omega), ← opn_c (ch := ch) (ch' := ch') (fun x hx => hc x (by omega))]
    exact r7 j hj
theorem SR_x {M0 M M' : mwM} {k F0 m i u : Nat} {gl zr ch : Nat → Nat} (h : SR M0 M k F0 m gl zr ch i u) (hx : ∀ a y, ¬ ((a = k + 20 ∨ a = k + 21) ∧ u ≤ y) → M' a y = M a y) : SR M0 M' k F0 m gl zr ch i u := by
  obtain ⟨r1, r2, r3, r4, r5, r6, r7⟩ := h
  refine ⟨fun a y q1 q2 q3 q4 q5 => ?_, fun y hy => ?_, fun j hj => ?_, fun j j1 j2 => ?_, fun j hj => ?_, fun j hj => ?_, fun j hj => ?_⟩
  · rw [hx a y (by omega)]; exact r1 a y q1 q2 q3 q4 q5
  · rw [hx _ y (by omega), hx _ y (by omega)]; exact r2 y hy
  · rw [hx _ _ (by omega), hx _ _ (by omega)]; exact r3 j hj
  · rw [hx _ _ (by omega)]; exact r4 j j1 j2
  · rw [hx _ _ (by omega)]; exact r5 j hj
  · rw [hx _ _ (by omega)]; exact r6 j hj
  · rw [hx _ _ (by omega), hx _ _ (by omega)]; exact r7 j hj
theorem nar_f : vp_nar .boolean 0 = 0 := bI_n (b := false)
theorem nar_t : vp_nar .boolean 1 = 1 := bI_n (b := true)
section
variable {fu k n cap F0 m i c fresh : Nat} {M0 M : mwM} {L : mwL} {pl zl fr oc gl ch : Nat → Nat} {r : (Int32 × Int32 × mwM × mwL) → Option (Int32 × mwM × mwL)}
/-- the next group is put into frame c of those that the search opened, or into a new one -/
theorem SR_put (hB : SB M0 k n cap F0 m pl zl fr oc gl) (h : SR M0 M k F0 m gl (fun j => zl (gl j)) ch i 0) (hi : i < m) (hg : SG cap i (fun j => zl (gl j)) ch) (hc : c ≤ opn ch i) (hf : fil ch (fun j => zl (gl j)) i c + zl (gl i) ≤ cap) {M' : mwM} (h16 : M' (k + 16) (gl i) = sI (F0 + 1 + c)) (h17 : M' (k + 17) (gl i) = sI (fil ch (fun j => zl (gl j)) i c)) (h19 : c = opn ch i → M' (k + 19) c = sI (F0 + 1 + c)) (hx : ∀ a y, ¬ ((a = k + 16 ∨ a = k + 17) ∧ y = gl i) → ¬ (a = k + 19 ∧ y = opn ch i) → a ≠ k + 20 → a ≠ k + 21 → M' a y = M a y) : SR M0 M' k F0 m gl (fun j => zl (gl j)) (upd1 ch i c) (i + 1) 0 ∧ SG cap (i + 1) (fun j => zl (gl j)) (upd1 ch i c) := by
  obtain ⟨⟨p1, p2, p3, p4, p5⟩, b2, b3, b4, b5, b6, b7⟩ := hB
  obtain ⟨r1, r2, r3, r4, r5, r6, r7⟩ := h
  have ne : ∀ j, j < m → j ≠ i → gl j ≠ gl i := fun j hj q w => q (b6 j i hj hi w)
  have hgl := b5 i hi
  refine ⟨⟨fun a y q1 q2 q3 q4 q5 => ?_, fun y hy => ?_, fun j hj => ?_, fun j j1 j2 => ?_, fun j hj => ?_, fun j hj => ?_, fun j hj => absurd hj (Nat.not_lt_zero _)⟩, ?_⟩
  · rw [hx a y (by omega) (by omega) q4 q5]; exact r1 a y q1 q2 q3 q4 q5
  · have := hy i hi
    rw [hx _ y (by omega) (by omega) (by omega) (by omega), hx _ y (by omega) (by omega) (by omega) (by omega)]; exact r2 y hy
  · by_cases e : j = i
    · subst e
      rw [upd1_s, fil_u]; exact ⟨h16, h17⟩
    · have := ne j (by omega) e
      rw [upd1_n e, fil_c (ch := upd1 ch i c) (ch' := ch) (fun x hx => upd1_n (by omega)), hx _ _ (by omega) (by omega) (by omega) (by omega), hx _ _ (by omega) (by omega) (by omega) (by omega)]
      exact r3 j (by omega)
  · have := ne j j2 (by omega)
    rw [hx _ _ (by omega) (by omega) (by omega) (by omega)]; exact r4 j (by omega) j2
  · by_cases e : j = i
    · subst e
      exact ⟨_, by omega, h17⟩
    · have := ne j hj e
      rw [hx _ _ (by omega) (by omega) (by omega) (by omega)]; exact r5 j hj
  · rw [opn_u1] at hj
    by_cases e : j = opn ch i
    · have ec : c = opn ch i := by split at hj <;> omega
      rw [e, ← ec]; exact h19 ec
    · have : j < opn ch i := by split at hj <;> omega
      rw [hx _ _ (by omega) (by omega) (by omega) (by omega)]; exact r6 j this
  · intro j hj
    by_cases e : j = i
    · subst e
      rw [upd1_s, opn_u, fil_u]; exact ⟨hc, hf⟩
    · rw [upd1_n e, opn_c (ch := upd1 ch i c) (ch' := ch) (fun x hx => upd1_n (by omega)), fil_c (ch := upd1 ch i c) (ch' := ch) (fun x hx => upd1_n (by omega))]
      exact hg j (by omega)
theorem SR_0 {u : Nat} (h : SR M0 M k F0 m gl (fun j => zl (gl j)) ch i u) : SR M0 M k F0 m gl (fun j => zl (gl j)) ch i 0 := by
  obtain ⟨r1, r2, r3, r4, r5, r6, r7⟩ := h
  exact ⟨r1, r2, r3, r4, r5, r6, fun j hj => absurd hj (Nat.not_lt_zero _)⟩
theorem SR_7 {u : Nat} (h : SR M0 M k F0 m gl (fun j => zl (gl j)) ch i 0) (h7 : ∀ j, j < u → M (k + 20) j = sI (ch j) ∧ M (k + 21) j = bI (decide (ch j = opn ch j))) : SR M0 M k F0 m gl (fun j => zl (gl j)) ch i u := by
  obtain ⟨r1, r2, r3, r4, r5, r6, r7⟩ := h
  exact ⟨r1, r2, r3, r4, r5, r6, h7⟩
/-- one try more at the same group -/
theorem s97 (hfu : 70 ≤ fu) (hB : SB M0 k n cap F0 m pl zl fr oc gl) (h : SR M0 M k F0 m gl (fun j => zl (gl j)) ch i i) (hi : i < m) (hg : SG cap i (fun j => zl (gl j)) ch) (hz : ∀ j, j < m → zl (gl j) ≤ cap) (h20 : M (k + 20) i + 1 = sI c) (hc : c ≤ opn ch i + 1) (hop : opn ch i ≤ fresh) (hfr : fresh ≤ m) :
    (¬ c < (if opn ch i < fresh then opn ch i + 1 else fresh) → ∃ M', SR M0 M' k F0 m gl (fun j => zl (gl j)) ch i i ∧ fX16_search_b97 fu k (sI m) 0 (sI fresh) r (sI i) (sI (opn ch i)) (sI (gl i)) M L = r (sI i + (-1), sI (opn ch i), M', L)) ∧
    (c < (if opn ch i < fresh then opn ch i + 1 else fresh) → ¬ fil ch (fun j => zl (gl j)) i c + zl (gl i) ≤ cap → ∃ M', SR M0 M' k F0 m gl (fun j => zl (gl j)) ch i i ∧ M' (k + 20) i = sI c ∧ fX16_search_b97 fu k (sI m) 0 (sI fresh) r (sI i) (sI (opn ch i)) (sI (gl i)) M L = r (sI i, sI (opn ch i), M', L)) ∧
    (c < (if opn ch i < fresh then opn ch i + 1 else fresh) → fil ch (fun j => zl (gl j)) i c + zl (gl i) ≤ cap → ∃ M', SR M0 M' k F0 m gl (fun j => zl (gl j)) (upd1 ch i c) (i + 1) (i + 1) ∧ SG cap (i + 1) (fun j => zl (gl j)) (upd1 ch i c) ∧ M' (k + 20) (i + 1) = -1 ∧ fX16_search_b97 fu k (sI m) 0 (sI fresh) r (sI i) (sI (opn ch i)) (sI (gl i)) M L = r (sI (i + 1), sI (opn (upd1 ch i c) (i + 1)), M', L)) := by
  have ht : tgt ch i := fun j hj => (hg j hj).1
  have hopi := tgt_le ht
  obtain ⟨⟨p1, p2, p3, p4, p5⟩, b2, b3, b4, b5, b6, b7⟩ := id hB
  obtain ⟨g1, g2, g3, g4⟩ := b5 i hi
  obtain ⟨z1, z2, z3, z4, z5, z6, z7, z8, z9, z10⟩ := p5 (gl i) g1 g2
  have hszi := hz i hi
  -- behind the first two writes
  have hC : SR M0 (mset (mset M (k + 21) i 0) (k + 20) i (sI c)) k F0 m gl (fun j => zl (gl j)) ch i i := SR_x h (fun a y q => by rw [mset_n (by omega), mset_n (by omega)])
  generalize hMc : mset (mset M (k + 21) i 0) (k + 20) i (sI c) = Mc at hC
  have c20 : Mc (k + 20) i = sI c := by rw [← hMc, mset_s]
  have c21 : Mc (k + 21) i = 0 := by rw [← hMc, mset_n (by omega), mset_s]
  have e97 : fX16_search_b97 fu k (sI m) 0 (sI fresh) r (sI i) (sI (opn ch i)) (sI (gl i)) M L = (if sI (opn ch i) < sI c then fX16_search_b156 fu k (sI m) 0 (sI fresh) r (sI i) (sI (opn ch i)) Mc L else (if sI c = sI (opn ch i) then (if (sI (opn ch i) - 0) = sI fresh then fX16_search_b156 fu k (sI m) 0 (sI fresh) r (sI i) (sI (opn ch i)) Mc L else mb3 (DX16_newFrame fu k Mc L) (fun r27 M25 L26 => (if r27 = 65 then fX16_search_b156 fu k (sI m) 0 (sI fresh) r (sI i) (sI (opn ch i)) M25 L26 else fX16_search_b162 fu k (sI m) 0 (sI fresh) r (sI i) (sI (opn ch i)) (sI (gl i)) (sI c) M25 L26))) else fX16_search_b162 fu k (sI m) 0 (sI fresh) r (sI i) (sI (opn ch i)) (sI (gl i)) (sI c) Mc L)) := by
    unfold fX16_search_b97
    simp only [mlet]
    rw [mck_s (show i < 129 by omega) (by omega), mck_s (show i < 129 by omega) (by omega), mck_s (show i < 129 by omega) (by omega), mck_s (show i < 129 by omega) (by omega), sI_nn (show i < 2000000000 by omega), nar_f, mset_n (show ¬ (k + 20 = k + 21 ∧ i = i) by omega), h20, hMc, c20]
  have e156 : fX16_search_b156 fu k (sI m) 0 (sI fresh) r (sI i) (sI (opn ch i)) Mc L = r (sI i + (-1), sI (opn ch i), Mc, L) := rfl
  have s0 : sI (opn ch i) - 0 = sI (opn ch i) := by simp
  have nf := SR_new (L := L) hfu hB hC hi hg
  have n65 : ¬ sI (F0 + 1 + opn ch i) = 65 := by rw [sI_eql (by omega) (by decide)]; omega
  rw [e97, s0]
  refine ⟨fun q => ⟨Mc, hC, ?_⟩, fun q nfit => ⟨Mc, hC, c20, ?_⟩, fun q fits => ?_⟩
  · by_cases c1 : opn ch i < c
    · rw [if_pos (by rw [sI_lt (by omega) (by omega)]; exact c1), e156]
    · rw [if_neg (by rw [sI_lt (by omega) (by omega)]; exact c1)]
      have ef : opn ch i = fresh ∧ c = opn ch i := by
        split at q <;> omega
      rw [if_pos (by rw [ef.2]), if_pos (by rw [ef.1]), e156]
  · -- an open frame without room
    have clt : c < opn ch i := by
      apply Nat.lt_of_not_le
      intro w
      rw [fil_0 w] at nfit
      omega
    rw [if_neg (by rw [sI_lt (by omega) (by omega)]; omega), if_neg (by rw [sI_eq (by omega) (by omega)]; omega)]
    unfold fX16_search_b162 fX16_search_b183 fX16_search_b209
    rw [if_neg (by rw [sI_eq (by omega) (by omega)]; omega), mck_s (show c < 65 by omega) (by omega), sI_nn (show c < 2000000000 by omega), hC.2.2.2.2.2.1 c clt, if_neg (show ¬ sI c = sI (opn ch i) by rw [sI_eq (by omega) (by omega)]; omega), mck_s (show gl i < 129 by omega) (by omega), sI_nn (show gl i < 2000000000 by omega), hC.1 (k + 22) (gl i) (by omega) (by omega) (by omega) (by omega) (by omega), z4]
    have hfil : fil ch (fun j => zl (gl j)) i c ≤ 8 := by
      obtain ⟨j, j1, j2⟩ := opn_att (c := c) i ht clt
      have : ∀ x, x ≤ i → fil ch (fun j => zl (gl j)) x c ≤ cap := by
        intro x
        induction x with
        | zero => intro _; exact Nat.zero_le _
        | succ x ihx =>
          intro hx
          have a := ihx (by omega)
          show fil ch (fun j => zl (gl j)) x c + (if ch x = c then zl (gl x) else 0) ≤ cap
          by_cases w : ch x = c
          · rw [if_pos w]
            have := (hg x (by omega)).2
            rw [w] at this
            exact this
          · rw [if_neg w]; omega
      have := this i (Nat.le_refl _)
      omega
    rw [m_room (by omega) (SR_pv hB hC (by omega) hg) (by omega) z5 z6 hfil (SR_cov hB hC (by omega) hg), mb3_s, if_neg nfit, if_neg (by decide)]
  · by_cases ce : c = opn ch i
    · -- a new frame
      have hlt : opn ch i < fresh := by split at q <;> omega
      rw [if_neg (by rw [sI_lt (by omega) (by omega)]; omega), if_pos (by rw [ce]), if_neg (by rw [sI_eq (by omega) (by omega)]; omega), nf, mb3_s, if_neg n65]
      unfold fX16_search_b162 fX16_search_b183 fX16_search_b209 fX16_search_b246
      rw [if_pos (by rw [ce]), nf, mb3_s, if_pos (by rw [ce]), if_pos (show (0 : Int32) ≤ 0 by decide), if_pos (by rw [ce])]
      simp only [mlet]
      rw [mck_s (by omega) (by omega), mck_s (by omega) (by omega), mck_s (by omega) (by omega), mck_s (by omega) (by omega), sI_nn (show opn ch i < 2000000000 by omega), sI_nn (show i < 2000000000 by omega), sI_nn (show gl i < 2000000000 by omega), sI_1, sI_1, mck_s (by omega) (by omega), sI_nn (by omega), nar_t]
      have hfil : fil ch (fun j => zl (gl j)) i c = 0 := fil_0 (by omega)
      have eo : opn (upd1 ch i c) (i + 1) = opn ch i + 1 := by rw [opn_u1, if_pos (by omega), ce]
      rw [eo]
      refine ⟨_, ?_, ?_, ?_, rfl⟩
      · have pt := (SR_put hB (SR_0 hC) hi hg (by omega) fits (M' := mset (mset (mset (mset (mset Mc (k + 19) (opn ch i) (sI (F0 + 1 + opn ch i))) (k + 21) i 1) (k + 16) (gl i) (sI (F0 + 1 + opn ch i))) (k + 17) (gl i) 0) (k + 20) (i + 1) (-1)) (by rw [mset_n (by omega), mset_n (by omega), mset_s, ce]) (by rw [mset_n (by omega), mset_s, hfil]; rfl) (fun _ => by rw [mset_n (by omega), mset_n (by omega), mset_n (by omega), mset_n (by omega), ce, mset_s]) (fun a y q1 q2 q3 q4 => by rw [mset_n (by omega), mset_n (by omega), mset_n (by omega), mset_n (by omega), mset_n (by omega)])).1
        refine SR_7 pt (fun j hj => ?_)
        by_cases e : j = i
        · subst e
          rw [upd1_s, opn_u, decide_eq_true ce, bI_t, mset_n (by omega), mset_n (by omega), mset_n (by omega), mset_n (by omega), mset_n (by omega), c20, mset_n (by omega), mset_n (by omega), mset_n (by omega), mset_s]
          exact ⟨rfl, rfl⟩
        · rw [upd1_n e, opn_c (ch := upd1 ch i c) (ch' := ch) (fun x hx => upd1_n (by omega)), mset_n (by omega), mset_n (by omega), mset_n (by omega), mset_n (by omega), mset_n (by omega), mset_n (by omega), mset_n (by omega), mset_n (by omega), mset_n (by omega), mset_n (by omega)]
          exact hC.2.2.2.2.2.2 j (by omega)
      · exact (SR_put hB (SR_0 hC) hi hg (by omega) fits (M' := mset (mset (mset (mset (mset Mc (k + 19) (opn ch i) (sI (F0 + 1 + opn ch i))) (k + 21) i 1) (k + 16) (gl i) (sI (F0 + 1 + opn ch i))) (k + 17) (gl i) 0) (k + 20) (i + 1) (-1)) (by rw [mset_n (by omega), mset_n (by omega), mset_s, ce]) (by rw [mset_n (by omega), mset_s, hfil]; rfl) (fun _ => by rw [mset_n (by omega), mset_n (by omega), mset_n (by omega), mset_n (by omega), ce, mset_s]) (fun a y q1 q2 q3 q4 => by rw [mset_n (by omega), mset_n (by omega), mset_n (by omega), mset_n (by omega), mset_n (by omega)])).2
      · rw [mset_s]
    · -- an open frame with room
      have clt : c < opn ch i := by split at q <;> omega
      rw [if_neg (by rw [sI_lt (by omega) (by omega)]; omega), if_neg (by rw [sI_eq (by omega) (by omega)]; omega)]
      unfold fX16_search_b162 fX16_search_b183 fX16_search_b209 fX16_search_b246
      rw [if_neg (by rw [sI_eq (by omega) (by omega)]; omega), mck_s (show c < 65 by omega) (by omega), sI_nn (show c < 2000000000 by omega), hC.2.2.2.2.2.1 c clt, if_neg (show ¬ sI c = sI (opn ch i) by rw [sI_eq (by omega) (by omega)]; omega), mck_s (show gl i < 129 by omega) (by omega), sI_nn (show gl i < 2000000000 by omega), hC.1 (k + 22) (gl i) (by omega) (by omega) (by omega) (by omega) (by omega), z4]
      rw [m_room (by omega) (SR_pv hB hC (by omega) hg) (by omega) z5 z6 (by omega) (SR_cov hB hC (by omega) hg), mb3_s, if_pos fits, if_pos (by rw [sI_lle (by decide) (by omega)]; omega), if_neg (by rw [sI_eq (by omega) (by omega)]; omega)]
      simp only [mlet]
      rw [mck_s (by omega) (by omega), mck_s (by omega) (by omega), sI_1, mck_s (by omega) (by omega), sI_nn (by omega)]
      have eo : opn (upd1 ch i c) (i + 1) = opn ch i := by rw [opn_u1, if_neg (by omega)]
      rw [eo]
      have pt := (SR_put hB (SR_0 hC) hi hg (by omega) fits (M' := mset (mset (mset Mc (k + 16) (gl i) (sI (F0 + 1 + c))) (k + 17) (gl i) (sI (fil ch (fun j => zl (gl j)) i c))) (k + 20) (i + 1) (-1)) (by rw [mset_n (by omega), mset_n (by omega), mset_s]) (by rw [mset_n (by omega), mset_s]) (fun w => absurd w ce) (fun a y q1 q2 q3 q4 => by rw [mset_n (by omega), mset_n (by omega), mset_n (by omega)]))
      refine ⟨_, ?_, pt.2, ?_, rfl⟩
      · refine SR_7 pt.1 (fun j hj => ?_)
        by_cases e : j = i
        · subst e
          rw [upd1_s, opn_u, decide_eq_false ce, bI_f, mset_n (by omega), mset_n (by omega), mset_n (by omega), c20, mset_n (by omega), mset_n (by omega), mset_n (by omega), c21]
          exact ⟨rfl, rfl⟩
        · rw [upd1_n e, opn_c (ch := upd1 ch i c) (ch' := ch) (fun x hx => upd1_n (by omega)), mset_n (by omega), mset_n (by omega), mset_n (by omega), mset_n (by omega), mset_n (by omega), mset_n (by omega)]
          exact hC.2.2.2.2.2.2 j (by omega)
      · rw [mset_s]
end
