/-! the transfer's microsecond: both sides -/
theorem m_sum295 {fu : Nat} {M : mwM} {L : mwL} {e : Nat → Nat} (hfu : 20 ≤ fu) (h : ∀ k, k < 8 → M 901 k = sI (e k)) : fX19_transferred_h295 fu fu (0, 1, M, L) = fX19_transferred_i295 fu (fun _ => none) (sI (eS e)) 8 (mset M 869 0 0) L := by
  have step : ∀ (k q v : Nat) (B : mwM), 1 ≤ k → k < 8 → (∀ k, k < 8 → B 901 k = sI (e k)) → fX19_transferred_h295 fu (q + 1) (sI v, sI k, B, L) = fX19_transferred_h295 fu q (sI (v + e k), sI (k + 1), mset B 869 0 0, L) := by
    intro k q v B k1 k2 hB
    show fX19_transferred_i295 fu (fX19_transferred_h295 fu q) (sI v) (sI k) B L = _
    unfold fX19_transferred_i295 DX17_ended
    rw [if_neg (show ¬ (8 : Int32) ≤ sI k by rw [sI_lle (by decide) (by omega)]; omega), mlet_e, if_neg (show ¬ sI k < 0 by rw [show (0 : Int32) = sI 0 from rfl, sI_lt (by omega) (by omega)]; omega), if_pos (show sI k ≤ 7 by rw [show (7 : Int32) = sI 7 from rfl, sI_le (by omega) (by omega)]; omega), mck_s (show k < 8 by omega) (by omega)]
    unfold fX17_ended_b26
    rw [mb3_s, mlet_e, mlet_e, sI_nn (by omega), mset_n (by omega), hB k k2, sI_add, sI_1]
  obtain ⟨q, hq⟩ : ∃ q, fu = q + 8 := ⟨fu - 8, by omega⟩
  have h1 : ∀ k, k < 8 → (mset M 869 0 0) 901 k = sI (e k) := fun k hk => by rw [mset_n (by omega)]; exact h k hk
  have hr : fX19_transferred_h295 fu fu (0, 1, M, L) = fX19_transferred_h295 fu (q + 8) (sI 0, sI 1, M, L) := by
    rw [← hq]
    rfl
  rw [hr, step 1 (q + 7) 0 M (by omega) (by omega) h, step 2 (q + 6) _ _ (by omega) (by omega) h1, mset_ii, step 3 (q + 5) _ _ (by omega) (by omega) h1, mset_ii, step 4 (q + 4) _ _ (by omega) (by omega) h1, mset_ii, step 5 (q + 3) _ _ (by omega) (by omega) h1, mset_ii, step 6 (q + 2) _ _ (by omega) (by omega) h1, mset_ii, step 7 (q + 1) _ _ (by omega) (by omega) h1, mset_ii]
  show fX19_transferred_i295 fu (fX19_transferred_h295 fu q) (sI _) 8 (mset M 869 0 0) L = _
  unfold eS
  rw [Nat.zero_add]
  unfold fX19_transferred_i295
  rw [if_pos (show (8 : Int32) ≤ 8 by decide), if_pos (show (8 : Int32) ≤ 8 by decide)]
/-- all frames that are new go on the bus -/
theorem st_putl {fu C t τ : Nat} {n o : Nat → Nat → Nat} {e ec tc fl : Nat → Nat} {Lc Lm : mwL} (hfu : 300 ≤ fu) (hC6 : C ≤ 6) (hC1 : ∀ m, 1 ≤ m → m ≤ n 0 0 → n 1 m < C) : ∀ (r f q q' : Nat) (b : Nat → Nat → Bool) (A M : mwM), f + r = n 0 1 → r < q → r < q' → TfV n b → TfC A n b o → TfM M Lm τ n b o e → TfN M (mset n 0 2 f) b e → (∀ g, f ≤ g → g < n 0 1 → b 1 g = false) → BusE A M (C + 1) t ec tc fl → A 3 13 = sI C → M 732 19 = sI C → A 292 0 = M 939 0 → ∃ (A' M' : mwM) (b' : Nat → Nat → Bool), fX1_passTransfer_h19 fu q (sI f, A, Lc) = fX1_passTransfer_i19 fu (fun _ => none) (sI (n 0 1)) A' Lc ∧ fX19_transferred_h23 fu q' (sI (n 0 1), M, Lm) = fX19_transferred_h295 fu fu (0, 1, M', Lm) ∧ TfV n b' ∧ TfC A' n b' o ∧ TfM M' Lm τ n b' o e ∧ TfN M' (mset n 0 2 (n 0 1)) b' e ∧ BusE A' M' (C + 1) t ec tc fl ∧ A' 292 0 = M' 939 0 ∧ (∀ a y, ¬ (20 ≤ a ∧ a ≤ 60) → ¬ (273 ≤ a ∧ a ≤ 274) → ¬ (a = 292 ∧ y = 0) → A' a y = A a y) ∧ ∀ a y, ¬ (a = 732 ∧ (y = 91 ∨ y = 94)) → ¬ (821 ≤ a ∧ a ≤ 853) → a ≠ 869 → a ≠ 898 → a ≠ 926 → ¬ (929 ≤ a ∧ a ≤ 930) → ¬ (a = 939 ∧ y = 0) → M' a y = M a y := by
  intro r
  induction r with
  | zero =>
    intro f q q' b A M hf hq hq' hv hC hM hN hG hB h13 h19 h0
    have hF := Tf_F hv
    obtain ⟨q, rfl⟩ : ∃ y, q = y + 1 := ⟨q - 1, by omega⟩
    obtain ⟨q', rfl⟩ : ∃ y, q' = y + 1 := ⟨q' - 1, by omega⟩
    have ef : f = n 0 1 := by omega
    subst ef
    refine ⟨A, M, b, ?_, ?_, hv, hC, hM, hN, hB, h0, fun _ _ _ _ _ => rfl, fun _ _ _ _ _ _ _ _ _ => rfl⟩
    · show fX1_passTransfer_i19 fu (fX1_passTransfer_h19 fu q) (sI (n 0 1)) A Lc = _
      unfold fX1_passTransfer_i19
      rw [if_pos (show A 154 6 ≤ sI (n 0 1) by rw [hC.1.2.1, sI_le (by omega) (by omega)]; omega), if_pos (show A 154 6 ≤ sI (n 0 1) by rw [hC.1.2.1, sI_le (by omega) (by omega)]; omega)]
    · show fX19_transferred_i23 fu (fX19_transferred_h23 fu q') (sI (n 0 1)) M Lm = _
      have h94 := hN.2.2.2.2.1
      rw [mset_s] at h94
      unfold fX19_transferred_i23
      rw [if_pos (show sI (n 0 1) ≤ M 732 94 by rw [h94, sI_le (by omega) (by omega)]; omega)]
  | succ r ih =>
    intro f q q' b A M hf hq hq' hv hC hM hN hG hB h13 h19 h0
    have hF := Tf_F hv
    obtain ⟨q, rfl⟩ : ∃ y, q = y + 1 := ⟨q - 1, by omega⟩
    obtain ⟨q', rfl⟩ : ∃ y, q' = y + 1 := ⟨q' - 1, by omega⟩
    obtain ⟨A1, M1, b1, s1, s2, s3, s4, s5, s6, s7, s8, s9, s10, s11⟩ := st_putf (fu := fu) (p := (n, b)) (Lc := Lc) (fX19_transferred_h23 fu q') (by omega) hv hC hM hN (show f < n 0 1 by omega) (hG f (by omega) (by omega)) hB h13 h19 hC6 hC1 h0
    dsimp only at s2 s3 s4 s5 s6 s7
    obtain ⟨A2, M2, b2, z1, z2, z3, z4, z5, z6, z7, z8, z9, z10⟩ := ih (f + 1) q q' b1 A1 M1 (by omega) (by omega) (by omega) s3 s4 s5 s6 (fun g u1 u2 => by
      cases s7 with
      | inl w => rw [w]; exact hG g (by omega) u2
      | inr w => rw [w, mset_n (by omega)]; exact hG g (by omega) u2) s8 (by rw [s10 _ _ (by omega) (by omega) (by omega)]; exact h13) (by rw [s11 _ _ (by omega) (by omega) (by omega) (by omega) (by omega) (by omega) (by omega)]; exact h19) s9
    refine ⟨A2, M2, b2, ?_, ?_, z3, z4, z5, z6, z7, z8, fun a y u1 u2 u3 => by rw [z9 a y u1 u2 u3, s10 a y u1 u2 u3], fun a y u1 u2 u3 u4 u5 u6 u7 => by rw [z10 a y u1 u2 u3 u4 u5 u6 u7, s11 a y u1 u2 u3 u4 u5 u6 u7]⟩
    · rw [← z1]
      show fX1_passTransfer_i19 fu (fX1_passTransfer_h19 fu q) (sI f) A Lc = _
      generalize fX1_passTransfer_h19 fu q = H
      unfold fX1_passTransfer_i19
      rw [if_neg (show ¬ A 154 6 ≤ sI f by rw [hC.1.2.1, sI_le (by omega) (by omega)]; omega), s1, mb2_s, mlet_e, sI_1]
    · rw [← z2, ← s2]
      rfl
