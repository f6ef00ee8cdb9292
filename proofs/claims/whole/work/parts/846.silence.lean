/-! who has waited too long -/
theorem sub_ltI {t n p : Nat} (ht : t ≤ 100000) (hn : n ≤ 100000) (hp : p ≤ 100000) : (sI t - sI n < sI p) ↔ t < n + p := by
  rw [Int32.lt_iff_toInt_lt, Int32.toInt_sub, sI_toInt (by omega), sI_toInt (by omega), sI_toInt (by omega), Int.bmod_def]
  split <;> omega
theorem sub_ltL {t n p : Nat} (ht : t ≤ 100000) (hn : n ≤ 100000) (hp : p ≤ 100000) : (lg_cmp (sL t - sL n) (sL p) < 0) ↔ t < n + p := by
  rw [lg_cmp_lt, Int64.lt_iff_toInt_lt, Int64.toInt_sub, sL_toInt (by omega), sL_toInt (by omega), sL_toInt (by omega), Int.bmod_def]
  split <;> omega
theorem st_silence {fu S W E t : Nat} {ws wc pe : Nat → Nat} {A M : mwM} {Lc Lm : mwL} (hfu : 100 ≤ fu) (hW : WtR A M Lm W S ws wc) (hS : S ≤ 40) (hT : RTr A M W E) (hE : E < 800000000) (ht : t ≤ 20000) (h83 : M 732 83 = sI t) (hp : ∀ w, w < W → A 143 w = sI (3 * pe w) ∧ M 764 (ws w) = sI (pe w) ∧ pe w ≤ 20000) : ∃ A' M' Lm' E', DX10_lookForSilence fu (sI t) A Lc = some (A', Lc) ∧ fX19_microsecond_h201 fu fu (0, M, Lm) = mb2 (DX19_transferred fu M' Lm') (fun M43 L44 => some (M43, L44)) ∧ WtR A' M' Lm' W S ws wc ∧ RTr A' M' W E' ∧ E ≤ E' ∧ E' ≤ E + 30 ∧ (∀ a y, ¬ (a = 139 ∧ (y = 3 ∨ y = 5)) → ¬ (144 ≤ a ∧ a ≤ 153) → A' a y = A a y) ∧ (∀ a y, ¬ (902 ≤ a ∧ a ≤ 920) → M' a y = M a y) ∧ ∀ a y, a ≠ 778 → Lm' a y = Lm a y := by
  unfold DX10_lookForSilence
  have key : ∀ (r w q q' : Nat) (B P : mwM) (Q : mwL) (E1 : Nat), w + r = W → r < q → r < q' → WtR B P Q W S ws wc → RTr B P W E1 → E ≤ E1 → E1 ≤ E + w → (∀ a y, ¬ (a = 139 ∧ (y = 3 ∨ y = 5)) → ¬ (144 ≤ a ∧ a ≤ 153) → B a y = A a y) → (∀ a y, ¬ (902 ≤ a ∧ a ≤ 920) → P a y = M a y) → (∀ a y, a ≠ 778 → Q a y = Lm a y) → ∃ A' M' Lm' E', fX10_lookForSilence_h2 fu (sI t) q (sI w, B, Lc) = some (A', Lc) ∧ fX19_microsecond_h201 fu q' (sI w, P, Q) = mb2 (DX19_transferred fu M' Lm') (fun M43 L44 => some (M43, L44)) ∧ WtR A' M' Lm' W S ws wc ∧ RTr A' M' W E' ∧ E ≤ E' ∧ E' ≤ E + 30 ∧ (∀ a y, ¬ (a = 139 ∧ (y = 3 ∨ y = 5)) → ¬ (144 ≤ a ∧ a ≤ 153) → A' a y = A a y) ∧ (∀ a y, ¬ (902 ≤ a ∧ a ≤ 920) → M' a y = M a y) ∧ ∀ a y, a ≠ 778 → Lm' a y = Lm a y := by
    intro r
    induction r with
    | zero =>
      intro w q q' B P Q E1 hw hq hq' kW kT k1 k2 fA fM fL
      obtain ⟨x, rfl⟩ : ∃ y, q = y + 1 := ⟨q - 1, by omega⟩
      obtain ⟨x', rfl⟩ : ∃ y, q' = y + 1 := ⟨q' - 1, by omega⟩
      obtain ⟨w1, w2, w3, w4⟩ := id kW
      refine ⟨B, P, Q, E1, ?_, ?_, kW, kT, k1, by omega, fA, fM, fL⟩
      · show fX10_lookForSilence_i2 fu (sI t) (fX10_lookForSilence_h2 fu (sI t) x) (sI w) B Lc = _
        unfold fX10_lookForSilence_i2
        rw [w1, if_pos (by rw [sI_le (by omega) (by omega)]; omega)]
      · show fX19_microsecond_i201 fu (fX19_microsecond_h201 fu x') (sI w) P Q = _
        unfold fX19_microsecond_i201
        rw [w2, if_pos (by rw [sI_le (by omega) (by omega)]; omega)]
    | succ r ih =>
      intro w q q' B P Q E1 hw hq hq' kW kT k1 k2 fA fM fL
      obtain ⟨x, rfl⟩ : ∃ y, q = y + 1 := ⟨q - 1, by omega⟩
      obtain ⟨x', rfl⟩ : ∃ y, q' = y + 1 := ⟨q' - 1, by omega⟩
      obtain ⟨w1, w2, w3, w4⟩ := id kW
      obtain ⟨a1, a2, a3, a4, a5, a6, a7, nt, a8, a9, a10⟩ := w4 w (by omega)
      obtain ⟨p1, p2, p3⟩ := hp w (by omega)
      have b143 : B 143 w = sI (3 * pe w) := by rw [fA _ _ (by omega) (by omega)]; exact p1
      have p764 : P 764 (ws w) = sI (pe w) := by rw [fM _ _ (by omega)]; exact p2
      have p83 : P 732 83 = sI t := by rw [fM _ _ (by omega)]; exact h83
      have unA : fX10_lookForSilence_h2 fu (sI t) (x + 1) (sI w, B, Lc) = fX10_lookForSilence_i2 fu (sI t) (fX10_lookForSilence_h2 fu (sI t) x) (sI w) B Lc := rfl
      have unM : fX19_microsecond_h201 fu (x' + 1) (sI w, P, Q) = fX19_microsecond_i201 fu (fX19_microsecond_h201 fu x') (sI w) P Q := rfl
      rw [unA, unM]
      unfold fX10_lookForSilence_i2 fX10_lookForSilence_b37 fX19_microsecond_i201 fX19_microsecond_b268
      have e3 : (3 : Int64) * sL (pe w) = sL (3 * pe w) := sL_mul (a := 3)
      rw [w1, if_neg (show ¬ sI W ≤ sI w by rw [sI_le (by omega) (by omega)]; omega), w2, if_neg (show ¬ sI W ≤ sI w by rw [sI_le (by omega) (by omega)]; omega)]
      simp (disch := omega) only [mck_s, sI_nn, mlet_e]
      rw [a9, b143, a10, a2, p83, sI_L (by omega), mck_s (show ws w < 40 by omega) (by omega), sI_nn (show ws w < 2000000000 by omega), p764, sI_L (show pe w < 2000000000 by omega), e3, sI_1, a7]
      by_cases c : t < nt + 3 * pe w
      · rw [if_pos ((sub_ltI (by omega) (by omega) (by omega)).mpr c), if_pos ((sub_ltL (by omega) (by omega) (by omega)).mpr c)]
        exact ih (w + 1) x x' B P Q E1 (by omega) (by omega) (by omega) kW kT k1 (by omega) fA fM fL
      · rw [if_neg (fun u => c ((sub_ltI (by omega) (by omega) (by omega)).mp u)), if_neg (fun u => c ((sub_ltL (by omega) (by omega) (by omega)).mp u))]
        obtain ⟨B1, rv, P1, z1, z2, z3, z4, z5, z6⟩ := st_failed (fu := fu) (L := Lc) (L2 := mset Q 778 w (sL t)) (tm := sI t) (i := w) (by omega) (by omega) (by omega) kT
        rw [z1, z2, mb2_s, mb3_s]
        refine ih (w + 1) x x' B1 P1 _ (E1 + 1) (by omega) (by omega) (by omega) ⟨?_, ?_, w3, fun v hv => ?_⟩ z3 (by omega) (by omega) (fun a y u1 u2 => by rw [z5 a y u1 (by omega) (by omega)]; exact fA a y u1 u2) (fun a y u => by rw [z6 a y u]; exact fM a y u) (fun a y u => by rw [mset_n (by omega)]; exact fL a y u)
        · rw [z5 _ _ (by omega) (by omega) (by omega)]; exact w1
        · rw [z6 _ _ (by omega)]; exact w2
        · obtain ⟨v1, v2, v3, v4, v5, v6, v7, nt', v8, v9, v10⟩ := w4 v hv
          refine ⟨by rw [z5 _ _ (by omega) (by omega) (by omega)]; exact v1, by rw [z6 _ _ (by omega)]; exact v2, v3, by rw [z5 _ _ (by omega) (by omega) (by omega)]; exact v4, by rw [z6 _ _ (by omega)]; exact v5, v6, by rw [z6 _ _ (by omega)]; exact v7, ?_⟩
          by_cases ev : v = w
          · rw [ev]
            exact ⟨t, ht, z4, by rw [mset_s]⟩
          · exact ⟨nt', v8, by rw [z5 _ _ (by omega) (by omega) (by omega)]; exact v9, by rw [mset_n (by omega)]; exact v10⟩
  obtain ⟨w1, w2, w3, w4⟩ := id hW
  exact key W 0 fu fu A M Lm E (by omega) (by omega) (by omega) hW hT (by omega) (by omega) (fun _ _ _ _ => rfl) (fun _ _ _ => rfl) (fun _ _ _ => rfl)
