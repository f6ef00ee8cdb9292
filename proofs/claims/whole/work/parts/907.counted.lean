/-! CALLS: counted -/
theorem st_counted {fu : Nat} {a1 : Int32} {A M : mwM} {Lc Lm : mwL} {Sb : Nat → Nat} (h : HS A M Lc Lm Sb) : CaQ mp21 Sb (DX11_counted fu a1 A Lc) (DX19_counted fu a1 M Lm) := by
  unfold DX11_counted DX19_counted fX11_counted_b9 fX11_counted_b40 fX19_counted_b10 fX19_counted_b15 fX19_counted_b32 fX19_counted_b42
  simp only [mlet_e, mset_s]
  rw [if_pos (show (0 : Int32) < 1 by decide), if_neg (show ¬ (0 : Int32) < 0 by decide), mset_n (show ¬ (732 = 732 ∧ 4 = 0) by omega)]
  have bad : CaQ mp21 Sb (some ((2, 0), A, Lc)) (some (0, mset M 732 0 1, Lm)) := ⟨2, 0, A, _, Lc, Lm, rfl, rfl, mset_s, HS_0 h⟩
  have ok : ∀ r : Int32, CaQ mp21 Sb (some ((0, r), A, Lc)) (some (r, mset M 732 0 0, Lm)) := fun r => ⟨0, r, A, _, Lc, Lm, rfl, rfl, mset_s, HS_0 h⟩
  by_cases c0 : a1 < 0
  · rw [if_pos c0, if_pos c0]
    exact bad
  rw [if_neg c0, if_neg c0]
  by_cases c4 : a1 ≤ 4
  rotate_left
  · rw [if_neg c4, if_neg c4]
    exact bad
  rw [if_pos c4, if_pos c4]
  obtain ⟨i, hi, rfl⟩ := nat_le (m := 4) (Int32.not_lt.mp c0) c4 (by omega)
  rcases h.2.2.2.2 with ⟨c1, c2⟩ | ⟨c1, c2, C, S, F, W, R, X, T, t, E, d, tu, g, own, bd, si, p, o, e, ec, tc, fl, c3, _, _⟩
  · rw [if_pos c1, if_pos c2]
    exact ok 0
  rw [if_neg (show ¬ A 0 5 = 0 by rw [c1]; decide), if_neg (show ¬ M 732 4 = 0 by rw [c2]; decide), mck_s (show i < 5 by omega) (by omega), mck_s (show i < 5 by omega) (by omega), sI_nn (by omega), mset_n (show ¬ (939 = 732 ∧ i = 0) by omega)]
  obtain ⟨hTk, hTr, _, _, _, _, _, _, _, h0, h4, _⟩ := c3
  obtain ⟨_, _, _, _, _, _, _, _, _, k1, k2, _⟩ := hTk
  obtain ⟨_, _, _, _, _, _, _, k3, _⟩ := hTr
  have : A 292 i = M 939 i := by
    have : i = 0 ∨ i = 1 ∨ i = 2 ∨ i = 3 ∨ i = 4 := by omega
    rcases this with rfl | rfl | rfl | rfl | rfl
    · exact h0
    · exact k1
    · exact k2
    · exact k3
    · exact h4
  rw [this]
  exact ok _
