/-! CALLS: count -/
theorem car_counts {A M : mwM} {Lc Lm : mwL} {C S F W R X T t E : Nat} {d : Nat → Nat → Nat} {tu : Nat → Bool} {g : Nat → Nat → Nat} {own Sb bd : Nat → Nat} {si : Nat → Bool} {p : PB} {o : Nat → Nat → Nat} {e ec tc fl : Nat → Nat} (h : CAR A M Lc Lm C S F W R X T t E d tu g own Sb bd si p o e ec tc fl) (h14 : A 3 14 = sI X) : A 3 13 = M 732 19 ∧ A 5 3 = M 732 24 ∧ A 3 14 = M 732 33 ∧ A 61 10 = M 732 45 ∧ A 61 11 = M 732 67 ∧ A 3 15 = M 732 55 ∧ A 139 2 = M 732 62 := by
  obtain ⟨hTk, hTr, hp, hBu, hSl, hCo, _⟩ := h
  obtain ⟨kS, kO, kR, kQ, kW, _⟩ := id hTk
  obtain ⟨w1, w2, w3, w4, w5, w6, w7, w8, w9, w10, w11, w12, w13⟩ := id hSl
  obtain ⟨tn, cn, U, cut, hRC, _⟩ := hCo
  obtain ⟨_, _, _, _, r5, _⟩ := hRC
  exact ⟨by rw [w9, w8], by rw [r5, w11], by rw [h14, kO.2.1], by rw [kS.1, kS.2.1], by rw [kS.2.2.2.1, kS.2.2.2.2.1], by rw [kR.1, kR.2.1], by rw [kW.1, kW.2.1]⟩
theorem st_count {fu : Nat} {a1 : Int32} {A M : mwM} {Lc Lm : mwL} {Sb : Nat → Nat} (h : HS A M Lc Lm Sb) : CaQ mp21 Sb (DX11_count fu a1 A Lc) (DX19_count fu a1 M Lm) := by
  unfold DX11_count DX19_count fX11_count_b10 fX19_count_b11 fX19_count_b27 fX19_count_b110 fX19_count_b81 fX19_count_b59
  simp only [mlet_e, mset_s]
  have neg1 : ¬ (1 : Int32) ≤ 0 := by decide
  have neg2 : ¬ (2 : Int32) ≤ 0 := by decide
  rw [if_neg neg1, if_neg neg2, if_pos (show (0 : Int32) ≤ 0 by decide)]
  have bad : CaQ mp21 Sb (some ((2, 0), A, Lc)) (some (0, mset M 732 0 1, Lm)) := ⟨2, 0, A, _, Lc, Lm, rfl, rfl, mset_s, HS_0 h⟩
  by_cases c0 : a1 < 0
  · rw [if_pos c0, if_pos c0]
    exact bad
  rw [if_neg c0, if_neg c0]
  by_cases c6 : a1 ≤ 6
  rotate_left
  · rw [if_neg c6, if_neg c6]
    exact bad
  rw [if_pos c6, if_pos c6]
  obtain ⟨i, hi, rfl⟩ := nat_le (m := 6) (Int32.not_lt.mp c0) c6 (by omega)
  rcases h.2.2.2.2 with ⟨c1, c2⟩ | ⟨c1, c2, C, S, F, W, R, X, T, t, E, d, tu, g, own, bd, si, p, o, e, ec, tc, fl, c3, c4, c5⟩
  · rw [if_pos c1, if_pos c2]
    exact ⟨1, 0, A, _, Lc, Lm, rfl, rfl, mset_s, HS_0 h⟩
  rw [if_neg (show ¬ A 0 5 = 0 by rw [c1]; decide), if_neg (show ¬ M 732 4 = 0 by rw [c2]; decide)]
  obtain ⟨q0, q1, q2, q3, q4, q5, q6⟩ := car_counts c3 c4
  have ok : ∀ r : Int32, CaQ mp21 Sb (some ((0, r), A, Lc)) (some (r, mset M 732 0 0, Lm)) := fun r => ⟨0, r, A, _, Lc, Lm, rfl, rfl, mset_s, HS_0 h⟩
  have : i = 0 ∨ i = 1 ∨ i = 2 ∨ i = 3 ∨ i = 4 ∨ i = 5 ∨ i = 6 := by omega
  rcases this with rfl | rfl | rfl | rfl | rfl | rfl | rfl
  · have ec : (if sI 0 = (0 : Int32) then some (((0 : Nat), A 3 13), A, Lc) else if sI 0 = (1 : Int32) then some ((0, A 5 3), A, Lc) else if sI 0 = (2 : Int32) then some ((0, A 3 14), A, Lc) else if sI 0 = (3 : Int32) then some ((0, A 61 10), A, Lc) else if sI 0 = (4 : Int32) then some ((0, A 61 11), A, Lc) else if sI 0 = (5 : Int32) then some ((0, A 3 15), A, Lc) else some ((0, A 139 2), A, Lc)) = some ((0, M 732 19), A, Lc) := by
      rw [if_pos (show sI 0 = (0 : Int32) from rfl), q0]
    rw [ec, if_neg (show ¬ (2 : Int32) ≤ sI 0 by decide), if_pos (show sI 0 = (0 : Int32) from rfl), mset_n (show ¬ (732 = 732 ∧ 19 = 0) by omega)]
    exact ok _
  · have ec : (if sI 1 = (0 : Int32) then some (((0 : Nat), A 3 13), A, Lc) else if sI 1 = (1 : Int32) then some ((0, A 5 3), A, Lc) else if sI 1 = (2 : Int32) then some ((0, A 3 14), A, Lc) else if sI 1 = (3 : Int32) then some ((0, A 61 10), A, Lc) else if sI 1 = (4 : Int32) then some ((0, A 61 11), A, Lc) else if sI 1 = (5 : Int32) then some ((0, A 3 15), A, Lc) else some ((0, A 139 2), A, Lc)) = some ((0, M 732 24), A, Lc) := by
      rw [if_neg (show ¬ sI 1 = (0 : Int32) by decide), if_pos (show sI 1 = (1 : Int32) from rfl), q1]
    rw [ec, if_neg (show ¬ (2 : Int32) ≤ sI 1 by decide), if_neg (show ¬ sI 1 = (0 : Int32) by decide), mset_n (show ¬ (732 = 732 ∧ 24 = 0) by omega)]
    exact ok _
  · have ec : (if sI 2 = (0 : Int32) then some (((0 : Nat), A 3 13), A, Lc) else if sI 2 = (1 : Int32) then some ((0, A 5 3), A, Lc) else if sI 2 = (2 : Int32) then some ((0, A 3 14), A, Lc) else if sI 2 = (3 : Int32) then some ((0, A 61 10), A, Lc) else if sI 2 = (4 : Int32) then some ((0, A 61 11), A, Lc) else if sI 2 = (5 : Int32) then some ((0, A 3 15), A, Lc) else some ((0, A 139 2), A, Lc)) = some ((0, M 732 33), A, Lc) := by
      rw [if_neg (show ¬ sI 2 = (0 : Int32) by decide), if_neg (show ¬ sI 2 = (1 : Int32) by decide), if_pos (show sI 2 = (2 : Int32) from rfl), q2]
    rw [ec, if_pos (show (2 : Int32) ≤ sI 2 by decide), if_neg (show ¬ (4 : Int32) ≤ sI 2 by decide), if_pos (show sI 2 = (2 : Int32) from rfl), mset_n (show ¬ (732 = 732 ∧ 33 = 0) by omega)]
    exact ok _
  · have ec : (if sI 3 = (0 : Int32) then some (((0 : Nat), A 3 13), A, Lc) else if sI 3 = (1 : Int32) then some ((0, A 5 3), A, Lc) else if sI 3 = (2 : Int32) then some ((0, A 3 14), A, Lc) else if sI 3 = (3 : Int32) then some ((0, A 61 10), A, Lc) else if sI 3 = (4 : Int32) then some ((0, A 61 11), A, Lc) else if sI 3 = (5 : Int32) then some ((0, A 3 15), A, Lc) else some ((0, A 139 2), A, Lc)) = some ((0, M 732 45), A, Lc) := by
      rw [if_neg (show ¬ sI 3 = (0 : Int32) by decide), if_neg (show ¬ sI 3 = (1 : Int32) by decide), if_neg (show ¬ sI 3 = (2 : Int32) by decide), if_pos (show sI 3 = (3 : Int32) from rfl), q3]
    rw [ec, if_pos (show (2 : Int32) ≤ sI 3 by decide), if_neg (show ¬ (4 : Int32) ≤ sI 3 by decide), if_neg (show ¬ sI 3 = (2 : Int32) by decide), mset_n (show ¬ (732 = 732 ∧ 45 = 0) by omega)]
    exact ok _
  · have ec : (if sI 4 = (0 : Int32) then some (((0 : Nat), A 3 13), A, Lc) else if sI 4 = (1 : Int32) then some ((0, A 5 3), A, Lc) else if sI 4 = (2 : Int32) then some ((0, A 3 14), A, Lc) else if sI 4 = (3 : Int32) then some ((0, A 61 10), A, Lc) else if sI 4 = (4 : Int32) then some ((0, A 61 11), A, Lc) else if sI 4 = (5 : Int32) then some ((0, A 3 15), A, Lc) else some ((0, A 139 2), A, Lc)) = some ((0, M 732 67), A, Lc) := by
      rw [if_neg (show ¬ sI 4 = (0 : Int32) by decide), if_neg (show ¬ sI 4 = (1 : Int32) by decide), if_neg (show ¬ sI 4 = (2 : Int32) by decide), if_neg (show ¬ sI 4 = (3 : Int32) by decide), if_pos (show sI 4 = (4 : Int32) from rfl), q4]
    rw [ec, if_pos (show (2 : Int32) ≤ sI 4 by decide), if_pos (show (4 : Int32) ≤ sI 4 by decide), if_pos (show sI 4 = (4 : Int32) from rfl), mset_n (show ¬ (732 = 732 ∧ 67 = 0) by omega)]
    exact ok _
  · have ec : (if sI 5 = (0 : Int32) then some (((0 : Nat), A 3 13), A, Lc) else if sI 5 = (1 : Int32) then some ((0, A 5 3), A, Lc) else if sI 5 = (2 : Int32) then some ((0, A 3 14), A, Lc) else if sI 5 = (3 : Int32) then some ((0, A 61 10), A, Lc) else if sI 5 = (4 : Int32) then some ((0, A 61 11), A, Lc) else if sI 5 = (5 : Int32) then some ((0, A 3 15), A, Lc) else some ((0, A 139 2), A, Lc)) = some ((0, M 732 55), A, Lc) := by
      rw [if_neg (show ¬ sI 5 = (0 : Int32) by decide), if_neg (show ¬ sI 5 = (1 : Int32) by decide), if_neg (show ¬ sI 5 = (2 : Int32) by decide), if_neg (show ¬ sI 5 = (3 : Int32) by decide), if_neg (show ¬ sI 5 = (4 : Int32) by decide), if_pos (show sI 5 = (5 : Int32) from rfl), q5]
    rw [ec, if_pos (show (2 : Int32) ≤ sI 5 by decide), if_pos (show (4 : Int32) ≤ sI 5 by decide), if_neg (show ¬ sI 5 = (4 : Int32) by decide), if_pos (show sI 5 = (5 : Int32) from rfl), mset_n (show ¬ (732 = 732 ∧ 55 = 0) by omega)]
    exact ok _
  · have ec : (if sI 6 = (0 : Int32) then some (((0 : Nat), A 3 13), A, Lc) else if sI 6 = (1 : Int32) then some ((0, A 5 3), A, Lc) else if sI 6 = (2 : Int32) then some ((0, A 3 14), A, Lc) else if sI 6 = (3 : Int32) then some ((0, A 61 10), A, Lc) else if sI 6 = (4 : Int32) then some ((0, A 61 11), A, Lc) else if sI 6 = (5 : Int32) then some ((0, A 3 15), A, Lc) else some ((0, A 139 2), A, Lc)) = some ((0, M 732 62), A, Lc) := by
      rw [if_neg (show ¬ sI 6 = (0 : Int32) by decide), if_neg (show ¬ sI 6 = (1 : Int32) by decide), if_neg (show ¬ sI 6 = (2 : Int32) by decide), if_neg (show ¬ sI 6 = (3 : Int32) by decide), if_neg (show ¬ sI 6 = (4 : Int32) by decide), if_neg (show ¬ sI 6 = (5 : Int32) by decide), q6]
    rw [ec, if_pos (show (2 : Int32) ≤ sI 6 by decide), if_pos (show (4 : Int32) ≤ sI 6 by decide), if_neg (show ¬ sI 6 = (4 : Int32) by decide), if_neg (show ¬ sI 6 = (5 : Int32) by decide), mset_n (show ¬ (732 = 732 ∧ 62 = 0) by omega)]
    exact ok _
