/-! a frame is given to the bus -/
theorem c_send0 {fu n ident row n3 F w : Nat} {q : Nat → Nat} {A : mwM} {L : mwL} (hfu : 20 ≤ fu) (hn : n < 7) (hF : A 20 9 = sI F) (hF2 : F < 200) (hw : A 30 n = sI w) (hn3 : 8 ≤ n3) (hn4 : n3 < 1000) (hrow : row ≠ 20 ∧ row ≠ 43 ∧ row ≠ 44 ∧ row ≠ 45 ∧ row ≠ 46) (hq : ∀ i, i < 8 → A row i = sI (q i)) : wq (DX0_send fu (sI n) (sI ident) row n3 A L) (fun z => z.1 = 1 ∧ z.2.2 = L ∧ z.2.1 43 F = sI n ∧ z.2.1 44 F = sI ident ∧ z.2.1 45 F = sI 0 ∧ (∀ i, i < 8 → z.2.1 46 (8 * F + i) = sI (q i)) ∧ z.2.1 20 9 = sI (F + 1) ∧ z.2.1 30 n = sI (w + 1) ∧ z.2.1 20 13 = bI false ∧ ∀ a y, ¬ ((a = 43 ∨ a = 44 ∨ a = 45) ∧ y = F) → ¬ (a = 46 ∧ 8 * F ≤ y ∧ y < 8 * F + 8) → ¬ (a = 20 ∧ (y = 9 ∨ y = 13)) → ¬ (a = 30 ∧ y = n) → z.2.1 a y = A a y) := by
  unfold DX0_send
  rw [hF, if_pos (by rw [sI_ltl (by omega) (by decide)]; exact hF2)]
  simp only [mlet]
  simp (disch := omega) only [mck_s, sI_nn, mset_n, hF]
  generalize hA1 : mset (mset (mset A 43 F (sI n)) 44 F (sI ident)) 45 F 0 = A1
  have f1 : ∀ a y, ¬ ((a = 43 ∨ a = 44 ∨ a = 45) ∧ y = F) → A1 a y = A a y := fun a y u => by
    rw [← hA1]
    simp (disch := omega) only [mset_n]
  have v1 : A1 43 F = sI n ∧ A1 44 F = sI ident ∧ A1 45 F = sI 0 := by
    rw [← hA1]
    simp (disch := omega) only [mset_n, mset_s]
    exact ⟨(by first | trivial | rfl), (by first | trivial | rfl), (by first | trivial | rfl)⟩
  refine wq_for (body := fun r z => fX0_send_i51 fu (sI n) (sI ident) row n3 r z.1 z.2.1 z.2.2) (fun i (x : mwM) => (sI i, x, L)) (fun i x => (∀ j, j < i → x 46 (8 * F + j) = sI (q j)) ∧ ∀ a y, ¬ (a = 46 ∧ 8 * F ≤ y ∧ y < 8 * F + 8) → x a y = A1 a y) 8 ?_ ?_ 8 0 A1 fu (by omega) (by omega) ⟨fun j u => by omega, fun _ _ _ => rfl⟩
  · intro i x r hi ⟨x1, x2⟩ ih
    show wq (fX0_send_i51 fu (sI n) (sI ident) row n3 r (sI i) x L) _
    unfold fX0_send_i51
    rw [if_neg (by rw [sI_lle (by decide) (by omega)]; omega), mck_s (by omega) (by omega), x2 20 9 (by omega), f1 20 9 (by omega), hF, sI_lml, sI_add, mck_s (by omega) (by omega), sI_nn (by omega), sI_nn (by omega), x2 row i (by omega), f1 row i (by omega), hq i hi]
    simp only [mlet]
    rw [sI_1]
    refine ih _ ⟨fun j u => ?_, fun a y u => by rw [mset_n (by omega)]; exact x2 a y u⟩
    by_cases z : j = i
    · rw [z, mset_s]
    · rw [mset_n (by omega)]
      exact x1 j (by omega)
  · intro x r ⟨x1, x2⟩
    show wq (fX0_send_i51 fu (sI n) (sI ident) row n3 r (sI 8) x L) _
    unfold fX0_send_i51
    rw [if_pos (by decide), x2 20 9 (by omega), f1 20 9 (by omega), hF, sI_1]
    simp only [mlet]
    rw [mck_s hn (by omega), mck_s hn (by omega), sI_nn (by omega), mset_n (by omega), x2 30 n (by omega), f1 30 n (by omega), hw, sI_1]
    refine wq_some ⟨rfl, rfl, ?_, ?_, ?_, fun i u => ?_, ?_, ?_, ?_, fun a y u1 u2 u3 u4 => ?_⟩
    · dsimp only
      rw [mset_n (by omega), mset_n (by omega), mset_n (by omega), x2 43 F (by omega)]; exact v1.1
    · dsimp only
      rw [mset_n (by omega), mset_n (by omega), mset_n (by omega), x2 44 F (by omega)]; exact v1.2.1
    · dsimp only
      rw [mset_n (by omega), mset_n (by omega), mset_n (by omega), x2 45 F (by omega)]; exact v1.2.2
    · dsimp only
      rw [mset_n (by omega), mset_n (by omega), mset_n (by omega)]; exact x1 i u
    · dsimp only
      rw [mset_n (by omega), mset_n (by omega), mset_s]
    · dsimp only
      rw [mset_n (by omega), mset_s]
    · dsimp only
      rw [mset_s]
      rfl
    · dsimp only
      rw [mset_n (by omega), mset_n (by omega), mset_n (by omega), x2 a y u2, f1 a y u1]
theorem m_noNode {fu n N : Nat} {M : mwM} {L : mwL} (h1 : M 821 1 = sI N) (hN : N ≤ 7) (hn : n < N) : DX12_noNode fu (sI n) M L = some (0, M, L) := by
  unfold DX12_noNode fX12_noNode_b17
  simp only [mzz_0, mzz_1]
  rw [if_neg (by rw [sI_ltl (by omega) (by decide)]; omega), h1, if_pos (by rw [sI_lt (by omega) (by omega)]; exact hn)]
theorem m_send_b49 {fu n N ident : Nat} {M : mwM} {L : mwL} (h1 : M 821 1 = sI N) (hN : N ≤ 7) (hn : n < N) (hid : ident < 2048) : DX12_send fu (sI n) (sI ident) 0 8 M L = (if M 821 4 = 200 then fX12_send_b88 fu (sI n) (sI ident) 0 8 3 M L else fX12_send_b88 fu (sI n) (sI ident) 0 8 0 M L) := by
  unfold DX12_send fX12_send_b41 fX12_send_b49
  rw [if_neg (show ¬ (0 : Int32) < 0 by decide), if_neg (show ¬ (5 : Int32) < 0 by decide), if_neg (show ¬ (8 : Int32) < 0 by decide), if_neg (show ¬ (15 : Int32) < 8 by decide), if_neg (show ¬ sI ident < 0 by rw [sI_ltl (by omega) (by decide)]; omega), if_neg (show ¬ ((0 : Int32) - 0 / 2 * 2) = 1 by decide), if_neg (show ¬ (2048 : Int32) ≤ sI ident by rw [sI_lle (by decide) (by omega)]; omega), m_noNode h1 hN hn, mb3_s, if_pos (show (0 : Int32) = 0 from rfl), if_neg (show ¬ (1 : Int32) = 0 by decide)]
theorem m_send12 {fu n N ident F : Nat} {M : mwM} {L : mwL} (hfu : 100 ≤ fu) (h1 : M 821 1 = sI N) (hN : N ≤ 7) (hn : n < N) (hid : ident < 2048) (hF : M 821 4 = sI F) (hF2 : F < 200) : wq (DX12_send fu (sI n) (sI ident) 0 8 M L) (fun z => z.1 = sI F ∧ z.2.2 = L ∧ z.2.1 821 0 = 0 ∧ z.2.1 821 4 = sI (F + 1) ∧ z.2.1 823 F = sI n ∧ z.2.1 824 F = sI ident ∧ z.2.1 825 F = 0 ∧ z.2.1 826 F = 8 ∧ z.2.1 828 F = sI 0 ∧ ∀ a y, ¬ (a = 821 ∧ (y = 0 ∨ y = 4)) → ¬ ((823 ≤ a ∧ a ≤ 826 ∨ a = 828) ∧ y = F) → ¬ (a = 827 ∧ 64 * F ≤ y ∧ y < 64 * F + 64) → z.2.1 a y = M a y) := by
  rw [m_send_b49 h1 hN hn hid, hF, if_neg (by rw [sI_eql (by omega) (by decide)]; omega)]
  unfold fX12_send_b88
  simp only [mlet]
  rw [mset_s, if_pos (show (0 : Int32) ≤ 0 by decide)]
  simp (disch := omega) only [mck_s, sI_nn, mset_n, hF]
  generalize hM1 : mset (mset (mset (mset (mset (mset M 821 0 0) 823 F (sI n)) 824 F (sI ident)) 825 F 0) 826 F 8) 828 F (vp_nar .boolean 0) = M1
  have f1 : ∀ a y, ¬ (a = 821 ∧ y = 0) → ¬ ((823 ≤ a ∧ a ≤ 826 ∨ a = 828) ∧ y = F) → M1 a y = M a y := fun a y u1 u2 => by
    rw [← hM1]
    simp (disch := omega) only [mset_n]
  have v1 : M1 821 0 = 0 ∧ M1 823 F = sI n ∧ M1 824 F = sI ident ∧ M1 825 F = 0 ∧ M1 826 F = 8 ∧ M1 828 F = sI 0 := by
    rw [← hM1]
    simp (disch := omega) only [mset_n, mset_s]
    exact ⟨(by first | trivial | rfl), (by first | trivial | rfl), (by first | trivial | rfl), (by first | trivial | rfl), (by first | trivial | rfl), (by first | trivial | rfl)⟩
  refine wq_for (body := fun r z => fX12_send_i154 fu (sI n) (sI ident) 0 8 r z.1 z.2.1 z.2.2) (fun i (x : mwM) => (sI i, x, L)) (fun i x => ∀ a y, ¬ (a = 827 ∧ 64 * F ≤ y ∧ y < 64 * F + 64) → x a y = M1 a y) 64 ?_ ?_ 64 0 M1 fu (by omega) (by omega) (fun _ _ _ => rfl)
  · intro i x r hi x2 ih
    show wq (fX12_send_i154 fu (sI n) (sI ident) 0 8 r (sI i) x L) _
    unfold fX12_send_i154
    rw [if_neg (by rw [sI_lle (by decide) (by omega)]; omega), x2 821 4 (by omega), f1 821 4 (by omega) (by omega), hF, sI_lml, sI_add, mck_s (by omega) (by omega), sI_nn (by omega)]
    simp only [mlet]
    rw [sI_1]
    exact ih _ (fun a y u => by rw [mset_n (by omega)]; exact x2 a y u)
  · intro x r x2
    show wq (fX12_send_i154 fu (sI n) (sI ident) 0 8 r (sI 64) x L) _
    unfold fX12_send_i154
    rw [if_pos (by decide), x2 821 4 (by omega), f1 821 4 (by omega) (by omega), hF, sI_1]
    simp only [mlet]
    rw [mset_s, sI_m1]
    have g : ∀ a y, ¬ (a = 821 ∧ y = 4) → ¬ (a = 827 ∧ 64 * F ≤ y ∧ y < 64 * F + 64) → mset x 821 4 (sI (F + 1)) a y = M1 a y := fun a y u1 u2 => by rw [mset_n u1, x2 a y u2]
    refine wq_some ⟨rfl, rfl, ?_, ?_, ?_, ?_, ?_, ?_, ?_, fun a y u1 u2 u3 => ?_⟩
    · dsimp only
      rw [g 821 0 (by omega) (by omega)]; exact v1.1
    · dsimp only
      rw [mset_s]
    · dsimp only
      rw [g 823 F (by omega) (by omega)]; exact v1.2.1
    · dsimp only
      rw [g 824 F (by omega) (by omega)]; exact v1.2.2.1
    · dsimp only
      rw [g 825 F (by omega) (by omega)]; exact v1.2.2.2.1
    · dsimp only
      rw [g 826 F (by omega) (by omega)]; exact v1.2.2.2.2.1
    · dsimp only
      rw [g 828 F (by omega) (by omega)]; exact v1.2.2.2.2.2
    · dsimp only
      rw [g a y (by omega) u3, f1 a y (by omega) u2]
theorem m_octet12 {fu F k x n st sd : Nat} {M : mwM} {L : mwL} (hF : M 821 4 = sI (F + 1)) (hF2 : F < 200) (hk : k < 8) (hx : x < 256) (hn : n < 7) (h823 : M 823 F = sI n) (h825 : M 825 F = 0) (h826 : M 826 F = 8) (h828 : M 828 F = sI 0) (h831 : M 831 n = sI st) (hst : st < 100) (h833 : st = 1 → M 833 n = sI sd ∧ sd < F) : DX12_octet fu (sI F) (sI k) (sI x) M L = some (mset (mset (mset M 821 50 (-1)) 821 0 0) 827 (64 * F + k) (sI x), L) := by
  unfold DX12_octet DX12_noFrame fX12_noFrame_b17
  simp only [mlet, mzz_0]
  have oo : ∀ (X : mwM), DX12_octetsOf fu 0 8 X L = some (sI 8, X, L) := fun X => m_octetsOf (e := 0) (f := 0) (r := 0) (c := 8) (by omega) (by omega) (by omega) (by omega)
  rw [if_neg (show ¬ sI F < 0 by rw [sI_ltl (by omega) (by decide)]; omega), mset_n (show ¬ (821 = 821 ∧ 4 = 50) by omega), hF, if_pos (show sI F < sI (F + 1) by rw [sI_lt (by omega) (by omega)]; omega), mb3_s, if_pos (show (0 : Int32) = 0 from rfl), if_pos (show 0 ≤ sI k by rw [sI_lle (by decide) (by omega)]; omega), mck_s hF2 (by omega), mck_s hF2 (by omega), sI_nn (by omega), mset_n (show ¬ (825 = 821 ∧ F = 50) by omega), h825, mset_n (show ¬ (826 = 821 ∧ F = 50) by omega), h826, oo, mb3_s, if_pos (show sI k < sI 8 by rw [sI_lt (by omega) (by omega)]; exact hk), if_neg (show ¬ sI x < 0 by rw [sI_ltl (by omega) (by decide)]; omega), if_pos (show sI x ≤ 255 by rw [sI_lel (by omega) (by decide)]; omega), mck_s hF2 (by omega), mset_n (show ¬ (828 = 821 ∧ F = 50) by omega), h828, if_pos (show sI 0 = 0 from rfl), mck_s hF2 (by omega), mset_n (show ¬ (823 = 821 ∧ F = 50) by omega), h823, mck_s (by omega) (by omega), sI_nn (by omega), mset_n (show ¬ (831 = 821 ∧ n = 50) by omega), h831, mset_n (show ¬ (833 = 821 ∧ n = 50) by omega)]
  have fin : fX12_octet_b103 fu (sI F) (sI k) (sI x) (mset M 821 50 (-1)) L = some (mset (mset (mset M 821 50 (-1)) 821 0 0) 827 (64 * F + k) (sI x), L) := by
    unfold fX12_octet_b103 fX12_octet_b104 fX12_octet_b126
    simp only [mlet]
    rw [mset_s, if_pos (show (0 : Int32) = 0 from rfl), sI_lml, sI_add, mck_s (by omega) (by omega), sI_nn (by omega)]
  by_cases c : st = 1
  · obtain ⟨q1, q2⟩ := h833 c
    rw [if_pos (show sI st = 1 by rw [c]; rfl), mck_s hF2 (by omega), mck_s (by omega) (by omega), q1, if_neg (show ¬ sI sd = sI F by rw [sI_eq (by omega) (by omega)]; omega)]
    exact fin
  · rw [if_neg (show ¬ sI st = 1 by rw [sI_eql (by omega) (by decide)]; exact c)]
    exact fin
