/-! a frame's signals are taken: those who watch -/
abbrev WtR (A M : mwM) (Lm : mwL) (W S : Nat) (ws wc : Nat → Nat) : Prop := A 139 2 = sI W ∧ M 732 62 = sI W ∧ W ≤ 30 ∧ ∀ w, w < W → A 141 w = sI (ws w) ∧ M 775 w = sI (ws w) ∧ ws w < S ∧ A 142 w = sI (wc w) ∧ M 776 w = sI (wc w) ∧ wc w < 6 ∧ M 777 w = sI (w + 1) ∧ ∃ nt, nt ≤ 20000 ∧ A 144 w = sI nt ∧ Lm 778 w = sL nt
theorem c_isInF {fu s f g : Nat} {A : mwM} {L : mwL} (hs : s < 40) (h : A 71 s = sI g) (hg : g < 40) (hf : f < 40) : DX6_isIn fu (sI s) (sI f) A L = some (bI (decide (g = f)), A, L) := by
  unfold DX6_isIn fX6_isIn_b18 mzz
  rw [mck_s hs (by omega), sI_nn (by omega), h]
  by_cases e : g = f
  · rw [if_pos (by rw [e]), if_pos (Or.inr rfl), decide_eq_true e]; rfl
  · rw [if_neg (by rw [sI_eq (by omega) (by omega)]; exact e), if_pos (Or.inl rfl), decide_eq_false e]; rfl
/-- who watches a signal of this frame -/
theorem st_watch {fu c f row n3 S W N E t : Nat} {fs ws wc : Nat → Nat} {A M : mwM} {Lc Lm : mwL} (hfu : 100 ≤ fu) (hc : c < 6) (hf : f < 40) (hS : S ≤ 40) (hfs : ∀ s, s < S → A 71 s = sI (fs s) ∧ M 767 s = sI (fs s) ∧ fs s < 40) (hW : WtR A M Lm W S ws wc) (hT : RTr A M W E) (hE : E < 800000000) (ht : t ≤ 20000) (h16 : A 3 16 = sI t) (h83 : M 732 83 = sI t) : ∃ A' M' Lm' E', fX1_takeSignals_b47 fu (sI c) (sI f) row n3 A Lc = fX1_takeSignals_h117 fu (sI c) (sI f) row n3 fu (0, A', Lc) ∧ fX19_come_h22 fu (sI c) (sI f) fu (0, M, Lm) = fX19_come_h90 fu (sI c) (sI f) fu (0, M', Lm') ∧ WtR A' M' Lm' W S ws wc ∧ RTr A' M' W E' ∧ E ≤ E' ∧ E' ≤ E + 30 ∧ (∀ a y, ¬ (a = 139 ∧ y = 5) → ¬ (144 ≤ a ∧ a ≤ 147) → A' a y = A a y) ∧ (∀ a y, ¬ (902 ≤ a ∧ a ≤ 920) → M' a y = M a y) ∧ ∀ a y, a ≠ 778 → Lm' a y = Lm a y := by
  unfold fX1_takeSignals_b47
  have key : ∀ (r w q q' : Nat) (B P : mwM) (Q : mwL) (E1 : Nat), w + r = W → r < q → r < q' → WtR B P Q W S ws wc → RTr B P W E1 → E ≤ E1 → E1 ≤ E + w → (∀ a y, ¬ (a = 139 ∧ y = 5) → ¬ (144 ≤ a ∧ a ≤ 147) → B a y = A a y) → (∀ a y, ¬ (902 ≤ a ∧ a ≤ 920) → P a y = M a y) → (∀ a y, a ≠ 778 → Q a y = Lm a y) → ∃ A' M' Lm' E', fX1_takeSignals_h50 fu (sI c) (sI f) row n3 q (sI w, B, Lc) = fX1_takeSignals_h117 fu (sI c) (sI f) row n3 fu (0, A', Lc) ∧ fX19_come_h22 fu (sI c) (sI f) q' (sI w, P, Q) = fX19_come_h90 fu (sI c) (sI f) fu (0, M', Lm') ∧ WtR A' M' Lm' W S ws wc ∧ RTr A' M' W E' ∧ E ≤ E' ∧ E' ≤ E + 30 ∧ (∀ a y, ¬ (a = 139 ∧ y = 5) → ¬ (144 ≤ a ∧ a ≤ 147) → A' a y = A a y) ∧ (∀ a y, ¬ (902 ≤ a ∧ a ≤ 920) → M' a y = M a y) ∧ ∀ a y, a ≠ 778 → Lm' a y = Lm a y := by
    intro r
    induction r with
    | zero =>
      intro w q q' B P Q E1 hw hq hq' kW kT k1 k2 fA fM fL
      obtain ⟨x, rfl⟩ : ∃ y, q = y + 1 := ⟨q - 1, by omega⟩
      obtain ⟨x', rfl⟩ : ∃ y, q' = y + 1 := ⟨q' - 1, by omega⟩
      obtain ⟨w1, w2, w3, w4⟩ := id kW
      refine ⟨B, P, Q, E1, ?_, ?_, kW, kT, k1, by omega, fA, fM, fL⟩
      · show fX1_takeSignals_i50 fu (sI c) (sI f) row n3 (fX1_takeSignals_h50 fu (sI c) (sI f) row n3 x) (sI w) B Lc = _
        unfold fX1_takeSignals_i50
        rw [w1, if_pos (by rw [sI_le (by omega) (by omega)]; omega)]
      · show fX19_come_i22 fu (sI c) (sI f) (fX19_come_h22 fu (sI c) (sI f) x') (sI w) P Q = _
        unfold fX19_come_i22
        rw [w2, if_pos (by rw [sI_le (by omega) (by omega)]; omega)]
    | succ r ih =>
      intro w q q' B P Q E1 hw hq hq' kW kT k1 k2 fA fM fL
      obtain ⟨x, rfl⟩ : ∃ y, q = y + 1 := ⟨q - 1, by omega⟩
      obtain ⟨x', rfl⟩ : ∃ y, q' = y + 1 := ⟨q' - 1, by omega⟩
      obtain ⟨w1, w2, w3, w4⟩ := id kW
      obtain ⟨a1, a2, a3, a4, a5, a6, a7, nt, a8, a9, a10⟩ := w4 w (by omega)
      obtain ⟨s1, s2, s3⟩ := hfs (ws w) a3
      have b71 : B 71 (ws w) = sI (fs (ws w)) := by rw [fA _ _ (by omega) (by omega)]; exact s1
      have p767 : P 767 (ws w) = sI (fs (ws w)) := by rw [fM _ _ (by omega)]; exact s2
      have unA : fX1_takeSignals_h50 fu (sI c) (sI f) row n3 (x + 1) (sI w, B, Lc) = fX1_takeSignals_i50 fu (sI c) (sI f) row n3 (fX1_takeSignals_h50 fu (sI c) (sI f) row n3 x) (sI w) B Lc := rfl
      have unM : fX19_come_h22 fu (sI c) (sI f) (x' + 1) (sI w, P, Q) = fX19_come_i22 fu (sI c) (sI f) (fX19_come_h22 fu (sI c) (sI f) x') (sI w) P Q := rfl
      rw [unA, unM]
      have nx := ih (w + 1) x x' B P Q E1 (by omega) (by omega) (by omega) kW kT k1 (by omega) fA fM fL
      unfold fX1_takeSignals_i50 fX1_takeSignals_b108 fX19_come_i22 fX19_come_b82 DX10_isWatching fX10_isWatching_b17 mzz
      rw [w1, if_neg (show ¬ sI W ≤ sI w by rw [sI_le (by omega) (by omega)]; omega), w2, if_neg (show ¬ sI W ≤ sI w by rw [sI_le (by omega) (by omega)]; omega), mck_s (show w < 30 by omega) (by omega), mck_s (show w < 30 by omega) (by omega), sI_nn (show w < 2000000000 by omega), a4, a5]
      by_cases e1 : wc w = c
      · rw [if_pos (show sI (wc w) = sI c by rw [e1]), if_pos (show sI (wc w) = sI c by rw [e1]), if_pos (show (1 : Int32) = 0 ∨ (1 : Int32) = 1 from Or.inr rfl), mb3_s, if_neg (show ¬ (1 : Int32) = 0 by decide)]
        unfold DX10_signalOf
        rw [mck_s (show w < 30 by omega) (by omega), mb3_s, sI_nn (show w < 2000000000 by omega), a1, c_isInF (by omega) b71 s3 hf, mb3_s, mck_s (show w < 30 by omega) (by omega), a2, mck_s (show ws w < 40 by omega) (by omega), sI_nn (show ws w < 2000000000 by omega), p767]
        by_cases e2 : fs (ws w) = f
        · rw [decide_eq_true e2, bI_t, if_neg (show ¬ (1 : Int32) = 0 by decide), if_pos (show sI (fs (ws w)) = sI f by rw [e2]), mck_s (show w < 30 by omega) (by omega), mlet_e, mck_s (show w < 30 by omega) (by omega), a7]
          have b16 : B 3 16 = sI t := by rw [fA _ _ (by omega) (by omega)]; exact h16
          have p83 : P 732 83 = sI t := by rw [fM _ _ (by omega)]; exact h83
          obtain ⟨B1, rv, P1, z1, z2, z3, z4, z5, z6⟩ := st_passed (fu := fu) (L := Lc) (L2 := mset Q 778 w (sL t)) (tm := sI t) (i := w) (by omega) (by omega) (by omega) kT
          rw [b16, p83, sI_L (by omega), z1, z2, mb2_s, mb3_s, mlet_e, mlet_e, sI_1]
          refine ih (w + 1) x x' B1 P1 _ (E1 + 1) (by omega) (by omega) (by omega) ⟨?_, ?_, w3, fun v hv => ?_⟩ z3 (by omega) (by omega) (fun a y u1 u2 => by rw [z5 a y u1 (by omega)]; exact fA a y u1 u2) (fun a y u => by rw [z6 a y u]; exact fM a y u) (fun a y u => by rw [mset_n (by omega)]; exact fL a y u)
          · rw [z5 _ _ (by omega) (by omega)]; exact w1
          · rw [z6 _ _ (by omega)]; exact w2
          · obtain ⟨v1, v2, v3, v4, v5, v6, v7, nt', v8, v9, v10⟩ := w4 v hv
            refine ⟨by rw [z5 _ _ (by omega) (by omega)]; exact v1, by rw [z6 _ _ (by omega)]; exact v2, v3, by rw [z5 _ _ (by omega) (by omega)]; exact v4, by rw [z6 _ _ (by omega)]; exact v5, v6, by rw [z6 _ _ (by omega)]; exact v7, ?_⟩
            by_cases ev : v = w
            · rw [ev]
              exact ⟨t, ht, z4, by rw [mset_s]⟩
            · exact ⟨nt', v8, by rw [z5 _ _ (by omega) (by omega)]; exact v9, by rw [mset_n (by omega)]; exact v10⟩
        · rw [decide_eq_false e2, bI_f, if_pos (show (0 : Int32) = 0 from rfl), if_neg (show ¬ sI (fs (ws w)) = sI f by rw [sI_eq (by omega) (by omega)]; exact e2), mlet_e, mlet_e, sI_1]
          exact nx
      · rw [if_neg (show ¬ sI (wc w) = sI c by rw [sI_eq (by omega) (by omega)]; exact e1), if_neg (show ¬ sI (wc w) = sI c by rw [sI_eq (by omega) (by omega)]; exact e1), if_pos (show (0 : Int32) = 0 ∨ (0 : Int32) = 1 from Or.inl rfl), mb3_s, if_pos (show (0 : Int32) = 0 from rfl), mlet_e, mlet_e, sI_1]
        exact nx
  obtain ⟨w1, w2, w3, w4⟩ := id hW
  exact key W 0 fu fu A M Lm E (by omega) (by omega) (by omega) hW hT (by omega) (by omega) (fun _ _ _ _ => rfl) (fun _ _ _ => rfl) (fun _ _ _ => rfl)
