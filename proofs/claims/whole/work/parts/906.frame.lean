/-! CALLS: frame -/
theorem st_lframe {fu : Nat} {a1 a2 : Int32} {A M : mwM} {Lc Lm : mwL} {Sb : Nat → Nat} (h : HS A M Lc Lm Sb) : CaQ mp32 Sb (DX11_frame fu a1 a2 A Lc) (DX19_frame fu a1 a2 M Lm) := by
  unfold DX11_frame DX19_frame fX11_frame_b25 fX11_frame_b44 fX19_frame_b20 fX19_frame_b33 fX19_frame_b38 fX19_frame_b111 DX6_identifierOf
  simp only [mlet_e, mset_s]
  rw [if_neg (show ¬ (1 : Int32) ≤ 0 by decide), if_neg (show ¬ (2 : Int32) ≤ 0 by decide), if_pos (show (0 : Int32) ≤ 0 by decide)]
  have bad : CaQ mp32 Sb (some ((3, 0), A, Lc)) (some (0, mset M 732 0 1, Lm)) := ⟨3, 0, A, _, Lc, Lm, rfl, rfl, mset_s, HS_0 h⟩
  have bad2 : CaQ mp32 Sb (some ((2, 0), A, Lc)) (some (0, mset M 732 0 2, Lm)) := ⟨2, 0, A, _, Lc, Lm, rfl, rfl, mset_s, HS_0 h⟩
  rcases h.2.2.2.2 with ⟨c1, c2⟩ | ⟨c1, c2, C, S, F, W, R, X, T, t, E, d, tu, g, own, bd, si, p, o, e, ec, tc, fl, c3, c4, c5⟩
  · rw [if_pos c1, if_pos c2]
    exact bad
  rw [if_neg (show ¬ A 0 5 = 0 by rw [c1]; decide), if_neg (show ¬ M 732 4 = 0 by rw [c2]; decide)]
  obtain ⟨⟨kS, _⟩, _, _, _, hSl, _⟩ := id c3
  obtain ⟨s1, s2, s3, s4, s5, s6, s7, _⟩ := kS
  rw [s4, s5]
  by_cases c0 : a1 < 0
  · rw [if_pos c0, if_pos c0]
    exact bad
  rw [if_neg c0, if_neg c0]
  by_cases cS : a1 < sI F
  rotate_left
  · rw [if_neg cS, if_neg cS]
    exact bad
  rw [if_pos cS, if_pos cS]
  obtain ⟨f, hf, rfl⟩ := nat_lt' c0 cS (by omega)
  by_cases d0 : a2 < 0
  · rw [if_pos d0, if_pos d0]
    exact bad2
  rw [if_neg d0, if_neg d0]
  by_cases d4 : a2 ≤ 4
  rotate_left
  · rw [if_neg d4, if_neg d4]
    exact bad2
  rw [if_pos d4, if_pos d4]
  obtain ⟨i, hi, rfl⟩ := nat_le (m := 4) (Int32.not_lt.mp d0) d4 (by omega)
  obtain ⟨⟨f1, f2, f3, f4, f5, f6, f7, f8, _⟩, g1, g2, g3⟩ := s7 f hf
  obtain ⟨⟨nn', y1, y2, _⟩, _⟩ := hSl.2.1 f hf
  have ok : ∀ r : Int32, CaQ mp32 Sb (some ((0, r), A, Lc)) (some (r, mset M 732 0 0, Lm)) := fun r => ⟨0, r, A, _, Lc, Lm, rfl, rfl, mset_s, HS_0 h⟩
  have m40 : ∀ {β : Type} {x : Option β}, mck (sI f) 40 x = x := mck_s (show f < 40 by omega) (by omega)
  rw [m40, m40, m40, m40, m40, m40, m40, m40, m40, m40, sI_nn (by omega), mb3_s, mset_n (show ¬ (784 = 732 ∧ f = 0) by omega), mset_n (show ¬ (779 = 732 ∧ f = 0) by omega), mset_n (show ¬ (782 = 732 ∧ f = 0) by omega), mset_n (show ¬ (783 = 732 ∧ f = 0) by omega), mset_n (show ¬ (785 = 732 ∧ f = 0) by omega), g1, g3, f1, f2, f3, f4, f7, f8, y1, y2]
  have : i = 0 ∨ i = 1 ∨ i = 2 ∨ i = 3 ∨ i = 4 := by omega
  rcases this with rfl | rfl | rfl | rfl | rfl
  · rw [if_pos (show sI 0 = (0 : Int32) from rfl), if_pos (show sI 0 = (0 : Int32) from rfl)]
    exact ok _
  · rw [if_neg (show ¬ sI 1 = (0 : Int32) by decide), if_pos (show sI 1 = (1 : Int32) from rfl), if_neg (show ¬ sI 1 = (0 : Int32) by decide), if_pos (show sI 1 = (1 : Int32) from rfl)]
    exact ok _
  · rw [if_neg (show ¬ sI 2 = (0 : Int32) by decide), if_neg (show ¬ sI 2 = (1 : Int32) by decide), if_pos (show sI 2 = (2 : Int32) from rfl), if_neg (show ¬ sI 2 = (0 : Int32) by decide), if_neg (show ¬ sI 2 = (1 : Int32) by decide), if_pos (show sI 2 = (2 : Int32) from rfl)]
    exact ok _
  · rw [if_neg (show ¬ sI 3 = (0 : Int32) by decide), if_neg (show ¬ sI 3 = (1 : Int32) by decide), if_neg (show ¬ sI 3 = (2 : Int32) by decide), if_pos (show sI 3 = (3 : Int32) from rfl), if_neg (show ¬ sI 3 = (0 : Int32) by decide), if_neg (show ¬ sI 3 = (1 : Int32) by decide), if_neg (show ¬ sI 3 = (2 : Int32) by decide), if_pos (show sI 3 = (3 : Int32) from rfl)]
    exact ok _
  · rw [if_neg (show ¬ sI 4 = (0 : Int32) by decide), if_neg (show ¬ sI 4 = (1 : Int32) by decide), if_neg (show ¬ sI 4 = (2 : Int32) by decide), if_neg (show ¬ sI 4 = (3 : Int32) by decide), if_neg (show ¬ sI 4 = (0 : Int32) by decide), if_neg (show ¬ sI 4 = (1 : Int32) by decide), if_neg (show ¬ sI 4 = (2 : Int32) by decide), if_neg (show ¬ sI 4 = (3 : Int32) by decide)]
    exact ok _
