/-! CALLS: signal, bit -/
abbrev mp32 (w : Nat) : Nat := if w = 3 then 1 else w
theorem nat_lt' {a : Int32} {m : Nat} (h0 : ¬ a < 0) (h : a < sI m) (hm : m < 2000000000) : ∃ N, N < m ∧ a = sI N := by
  have h0' : 0 ≤ a.toInt := Int32.le_iff_toInt_le.mp (Int32.not_lt.mp h0)
  refine ⟨nn a, ?_, sI_of h0'⟩
  have h' := Int32.lt_iff_toInt_lt.mp h
  rw [sI_toInt hm] at h'
  have : ((nn a : Nat) : Int) = a.toInt := Int.toNat_of_nonneg h0'
  omega
theorem st_lsignal {fu : Nat} {a1 a2 : Int32} {A M : mwM} {Lc Lm : mwL} {Sb : Nat → Nat} (h : HS A M Lc Lm Sb) : CaQ mp32 Sb (DX11_signal fu a1 a2 A Lc) (DX19_signal fu a1 a2 M Lm) := by
  unfold DX11_signal DX19_signal fX11_signal_b25 fX11_signal_b75 fX19_signal_b20 fX19_signal_b25 fX19_signal_b56
  simp only [mlet_e, mset_s]
  rw [if_neg (show ¬ (1 : Int32) ≤ 0 by decide), if_pos (show (0 : Int32) ≤ 0 by decide)]
  have bad : CaQ mp32 Sb (some ((3, 0), A, Lc)) (some (0, mset M 732 0 1, Lm)) := ⟨3, 0, A, _, Lc, Lm, rfl, rfl, mset_s, HS_0 h⟩
  rcases h.2.2.2.2 with ⟨c1, c2⟩ | ⟨c1, c2, C, S, F, W, R, X, T, t, E, d, tu, g, own, bd, si, p, o, e, ec, tc, fl, c3, c4, c5⟩
  · rw [if_pos c1, if_pos c2]
    exact bad
  rw [if_neg (show ¬ A 0 5 = 0 by rw [c1]; decide), if_neg (show ¬ M 732 4 = 0 by rw [c2]; decide)]
  obtain ⟨⟨kS, _⟩, _⟩ := id c3
  obtain ⟨s1, s2, s3, _, _, _, _, s8, _⟩ := kS
  rw [s1, s2]
  by_cases c0 : a1 < 0
  · rw [if_pos c0, if_pos c0]
    exact bad
  rw [if_neg c0, if_neg c0]
  by_cases cS : a1 < sI S
  rotate_left
  · rw [if_neg cS, if_neg cS]
    exact bad
  rw [if_pos cS, if_pos cS]
  obtain ⟨s, hs, rfl⟩ := nat_lt' c0 cS (by omega)
  obtain ⟨_, _, _, _, ⟨b1, b2, b3, b4, _⟩, _⟩ := s8 s hs
  have ok : ∀ r : Int32, CaQ mp32 Sb (some ((0, r), A, Lc)) (some (r, mset M 732 0 0, Lm)) := fun r => ⟨0, r, A, _, Lc, Lm, rfl, rfl, mset_s, HS_0 h⟩
  rw [mck_s (show s < 40 by omega) (by omega), mck_s (show s < 40 by omega) (by omega), mck_s (show s < 40 by omega) (by omega), mck_s (show s < 40 by omega) (by omega), sI_nn (by omega), b1, b2, mset_n (by omega), mset_n (by omega), b3, b4, show (8 : Int32) * sI (d 7 s) = sI (8 * d 7 s) from sI_lml]
  by_cases ca : a2 = 0
  · rw [if_pos ca, if_pos ca]
    exact ok _
  · rw [if_neg ca, if_neg ca]
    exact ok _
