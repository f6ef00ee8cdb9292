/-! cores and charts, while others work -/
theorem RCo_w {A A' M M' : mwM} {L L' : mwL} {T C t : Nat} (h : RCo A M L T C t) (hA : ∀ a y, 5 ≤ a → a ≤ 19 → A' a y = A a y) (hM : ∀ a y, 787 ≤ a → a ≤ 820 → M' a y = M a y) (hL : ∀ a y, 787 ≤ a → a ≤ 820 → L' a y = L a y) : RCo A' M' L' T C t := by
  have eA : ∀ a, 5 ≤ a → a ≤ 19 → A' a = A a := fun a u1 u2 => funext (fun y => hA a y u1 u2)
  have eM : ∀ a, 787 ≤ a → a ≤ 820 → M' a = M a := fun a u1 u2 => funext (fun y => hM a y u1 u2)
  have eL : ∀ a, 787 ≤ a → a ≤ 820 → L' a = L a := fun a u1 u2 => funext (fun y => hL a y u1 u2)
  obtain ⟨tn, cn, U, cut, hR, hAL, h43, h1, h2, h3, h4, h5, h6, h7⟩ := h
  refine ⟨tn, cn, U, cut, ?_, ?_, by rw [eL 787 (by omega) (by omega)]; exact h43, h1, h2, h3, h4, by rw [eA 5 (by omega) (by omega)]; exact h5, ?_, ?_⟩
  · unfold RC at hR ⊢
    simp (disch := omega) only [tk, tm, lfR, eA 5, eA 7, eA 8, eA 9, eA 10, eA 11, eA 12, eA 13, eA 14, eA 15, eA 16, eA 17, eA 18, eM 787, eM 788, eM 789, eM 790, eM 792, eM 793, eM 794, eM 796, eM 798, eM 799, eM 801, eM 804, eM 806, eM 809, eM 810, eL 787, eL 795, eL 797, eL 800, eL 805] at hR ⊢
    exact hR
  · unfold AL at hAL ⊢
    rw [eM 787 (by omega) (by omega), eM 812 (by omega) (by omega), eL 813 (by omega) (by omega), eA 11 (by omega) (by omega), eA 9 (by omega) (by omega)]
    exact hAL
  · rw [eA 5 (by omega) (by omega)]
    intro w
    have := h6 w
    unfold SA stl at this ⊢
    rw [eA 18 (by omega) (by omega), eA 8 (by omega) (by omega), eA 12 (by omega) (by omega), eA 7 (by omega) (by omega), eA 13 (by omega) (by omega)]
    exact this
  · unfold WH at h7 ⊢
    rw [eA 19 (by omega) (by omega), eM 820 (by omega) (by omega)]
    exact h7
theorem ReC_D {k : Nat} {A : mwM} {L L' : mwL} {c : Nat → Nat → Nat} {b : Nat → Nat → Bool} {va : Nat → Int32} {D : Nat → Int64} {x : Nat → Int32} (h : ReC k A L c b va D x) : ReC k A L' c b va (L' (k + 34)) x := by
  obtain ⟨h1, h2, h3, ⟨h4, h5, h6, h7, h8, h9⟩, h10⟩ := h
  exact ⟨h1, h2, h3, ⟨h4, h5, h6, h7, h8, rfl⟩, h10⟩
theorem ReM_D {q : Nat} {M : mwM} {L L' : mwL} {c : Nat → Nat → Nat} {b : Nat → Nat → Bool} {va : Nat → Int32} {D : Nat → Int64} {x : Nat → Int32} (h : ReM q M L c b va D x) (hL : ∀ a, q + 5 ≤ a → a ≤ q + 20 → L' a = L a) : ReM q M L' c b va (L' (q + 21)) x := by
  obtain ⟨h1, h2, h3, ⟨h4, h5, h6, h7, h8, h9, h9'⟩, h10, h11, h12, h13⟩ := h
  refine ⟨h1, h2, ?_, ⟨h4, h5, h6, h7, h8, rfl, h9'⟩, fun s u => by rw [hL _ (by omega) (by omega)]; exact h10 s u, fun s u1 u2 => by rw [hL _ (by omega) (by omega)]; exact h11 s u1 u2, h12, h13⟩
  unfold AxM at h3 ⊢
  rw [hL _ (by omega) (by omega)]
  exact h3
/-- a chart, as both keep it -/
def CxR (A M : mwM) (Lc Lm : mwL) (t x : Nat) : Prop := ∃ (va : Nat → Int32) (p : ZT × Int32) (nw : Nat), WI p.1 ∧ RcW (293 + 36 * x) A Lc va p.1 ∧ RmW (964 + 53 * x) M Lm va p.1 ∧ A (293 + 36 * x) 13 = p.2 ∧ M 751 x = p.2 ∧ Lm (964 + 53 * x) 28 = sL nw ∧ nw ≤ t
theorem CxR_f {A A' M M' : mwM} {Lc Lc' Lm Lm' : mwL} {t t' x : Nat} (h : CxR A M Lc Lm t x) (ht : t ≤ t') (hA : ∀ a y, 293 + 36 * x ≤ a → a ≤ 293 + 36 * x + 33 → ¬ (a = 293 + 36 * x ∧ (y = 5 ∨ y = 11 ∨ y = 12)) → A' a y = A a y) (hM : ∀ a y, 964 + 53 * x ≤ a → a ≤ 964 + 53 * x + 21 → ¬ (a = 964 + 53 * x ∧ y = 0) → M' a y = M a y) (h751 : M' 751 x = M 751 x) (hL : ∀ a, 964 + 53 * x ≤ a → a ≤ 964 + 53 * x + 20 → Lm' a = Lm a) (hD : Lc' (293 + 36 * x + 34) = Lm' (964 + 53 * x + 21)) : CxR A' M' Lc' Lm' t' x := by
  obtain ⟨va, p, nw, h1, h2, h3, h4, h5, h6, h7⟩ := h
  have c1 : RcW (293 + 36 * x) A' Lc va p.1 := RcW_f h2 (fun a y u1 u2 u3 u4 u5 => hA a y u1 u2 (by omega)) rfl
  have m1 : RmW (964 + 53 * x) M' Lm va p.1 := ReM_f h3 (fun a y u1 u2 u3 => hM a y u1 u2 (by omega)) (fun _ _ _ => rfl)
  refine ⟨va, (((p.1.1.1, p.1.1.2.1, Lc' (293 + 36 * x + 34)), p.1.2), p.2), nw, h1, ⟨ReC_D c1.1, c1.2⟩, ?_, by rw [hA _ _ (by omega) (by omega) (by omega)]; exact h4, by rw [h751]; exact h5, by rw [hL _ (by omega) (by omega)]; exact h6, by omega⟩
  have := ReM_D (L' := Lm') m1 (fun a u1 u2 => hL a (by omega) (by omega))
  rw [← hD] at this
  exact this
theorem m_used {fu i T : Nat} {M : mwM} {L : mwL} (hT : T ≤ 12) (hi : i < T) (h1 : M 787 1 = sI T) : DX15_used fu (sI (i + 1)) M L = some (L 805 (i + 1), M, L) := by
  unfold DX15_used fX15_used_b20
  rw [m_no hT hi h1, mb3_s, if_pos (show (0 : Int32) = 0 from rfl), mck_s (by omega) (by omega), sI_nn (by omega)]
/-- what the tasks had used -/
theorem m_before {fu T : Nat} {M : mwM} {L : mwL} (hfu : 50 ≤ fu) (hT : T ≤ 12) (h24 : M 732 24 = sI T) (h1 : M 787 1 = sI T) : ∃ L', fX19_microsecond_h67 fu fu (0, M, L) = mb3 (DX15_run fu 1 M L') (fun r18 M16 L17 => mlet (mset M16 732 83 ((M16 732 83) + 1)) (fun M19 => fX19_microsecond_h118 fu fu (0, M19, L17))) ∧ (∀ i, i < T → L' 925 i = L 805 (i + 1)) ∧ ∀ a y, a ≠ 925 → L' a y = L a y := by
  have key : ∀ (r i q : Nat) (Q : mwL), i + r = T → r < q → (∀ j, j < i → Q 925 j = L 805 (j + 1)) → (∀ a y, a ≠ 925 → Q a y = L a y) → ∃ L', fX19_microsecond_h67 fu q (sI i, M, Q) = mb3 (DX15_run fu 1 M L') (fun r18 M16 L17 => mlet (mset M16 732 83 ((M16 732 83) + 1)) (fun M19 => fX19_microsecond_h118 fu fu (0, M19, L17))) ∧ (∀ i, i < T → L' 925 i = L 805 (i + 1)) ∧ ∀ a y, a ≠ 925 → L' a y = L a y := by
    intro r
    induction r with
    | zero =>
      intro i q Q hi hq g1 g2
      obtain ⟨q', rfl⟩ : ∃ y, q = y + 1 := ⟨q - 1, by omega⟩
      refine ⟨Q, ?_, fun j hj => g1 j (by omega), g2⟩
      show fX19_microsecond_i67 fu (fX19_microsecond_h67 fu q') (sI i) M Q = _
      unfold fX19_microsecond_i67
      rw [h24, if_pos (by rw [sI_le (by omega) (by omega)]; omega)]
    | succ r ih =>
      intro i q Q hi hq g1 g2
      obtain ⟨q', rfl⟩ : ∃ y, q = y + 1 := ⟨q - 1, by omega⟩
      have un : fX19_microsecond_h67 fu (q' + 1) (sI i, M, Q) = fX19_microsecond_i67 fu (fX19_microsecond_h67 fu q') (sI i) M Q := rfl
      rw [un]
      unfold fX19_microsecond_i67
      rw [h24, if_neg (by rw [sI_le (by omega) (by omega)]; omega), sI_1, m_used hT (by omega) h1, mb3_s, mck_s (by omega) (by omega), mlet_e, mlet_e, sI_nn (by omega)]
      refine ih (i + 1) q' _ (by omega) (by omega) (fun j hj => ?_) (fun a y u => by rw [mset_n (by omega)]; exact g2 a y u)
      by_cases e : j = i
      · rw [e, mset_s]; exact g2 _ _ (by omega)
      · rw [mset_n (by omega)]; exact g1 j (by omega)
  exact key T 0 fu L (by omega) (by omega) (fun j hj => by omega) (fun _ _ _ => rfl)
