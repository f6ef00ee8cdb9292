/-! CALLS: bit, frame -/
theorem HS_821 {A M : mwM} {Lc Lm : mwL} {Sb : Nat → Nat} {v : Int32} (h : HS A M Lc Lm Sb) : HS A (mset M 821 0 v) Lc Lm Sb := by
  obtain ⟨⟨k, k1, k2, k3⟩, ⟨n, tx, t1, t2⟩, ⟨i1, i2, i3, i4, i5⟩, h5, hc⟩ := h
  refine ⟨⟨k, k1, k2, by rw [mset_n (by omega)]; exact k3⟩, ⟨n, tx, t1, TxM_f t2 (fun x y u => mset_n (by omega))⟩, ⟨RCd_fr i1 (fun _ _ _ _ => rfl) (fun a y u => mset_n (by omega)), i2, by rw [mset_n (by omega)]; exact i3, PrB_f i4 (fun a u1 u2 => mset_n (by omega)) (fun _ _ _ _ _ => rfl) (fun _ _ _ _ _ => rfl), fun a ha y hy => by rw [mset_n (by omega)]; exact i5 a ha y hy⟩, by rw [mset_n (by omega)]; exact h5, ?_⟩
  rcases hc with ⟨c1, c2⟩ | ⟨c1, c2, C, S, F, W, R, X, T, t, E, d, tu, g, own, bd, si, p, o, e, ec, tc, fl, c3, c4, c5⟩
  · exact Or.inl ⟨c1, by rw [mset_n (by omega)]; exact c2⟩
  · exact Or.inr ⟨c1, by rw [mset_n (by omega)]; exact c2, C, S, F, W, R, X, T, t, E, d, tu, g, own, bd, si, p, o, e, ec, tc, fl, CAR_g c3 (fun _ _ _ => rfl) (fun a y u1 u2 => mset_n (by omega)), c4, c5⟩
theorem st_lbit {fu : Nat} {a1 : Int32} {A M : mwM} {Lc Lm : mwL} {Sb : Nat → Nat} (h : HS A M Lc Lm Sb) : CaQ mp32 Sb (DX11_bit fu a1 A Lc) (DX19_bit fu a1 M Lm) := by
  unfold DX11_bit DX19_bit fX11_bit_b22 fX19_bit_b20 fX19_bit_b25 fX19_bit_b47
  simp only [mlet_e, mset_s]
  rw [if_neg (show ¬ (1 : Int32) ≤ 0 by decide), if_pos (show (0 : Int32) ≤ 0 by decide)]
  have bad : CaQ mp32 Sb (some ((3, 0), A, Lc)) (some (0, mset M 732 0 1, Lm)) := ⟨3, 0, A, _, Lc, Lm, rfl, rfl, mset_s, HS_0 h⟩
  rcases h.2.2.2.2 with ⟨c1, c2⟩ | ⟨c1, c2, C, S, F, W, R, X, T, t, E, d, tu, g, own, bd, si, p, o, e, ec, tc, fl, c3, c4, c5⟩
  · rw [if_pos c1, if_pos c2]
    exact bad
  rw [if_neg (show ¬ A 0 5 = 0 by rw [c1]; decide), if_neg (show ¬ M 732 4 = 0 by rw [c2]; decide)]
  obtain ⟨hTk, _, _, ⟨_, _, _, _, _, _, hB⟩, _⟩ := id c3
  have k16 := hTk.2.2.2.2.2.2.2.2.2.2.2.1
  have k83 := hTk.2.2.2.2.2.2.2.2.2.2.2.2.1
  have kt := hTk.2.2.2.2.2.2.2.2.2.2.2.2.2
  have h2 : M 821 2 = sI t := hB.1.2.1.2.2
  have h21 := hB.2.2.2.2.2
  rw [k16, k83]
  by_cases c0 : a1 < 0
  · rw [if_pos c0, if_pos c0]
    exact bad
  rw [if_neg c0, if_neg c0]
  by_cases cS : a1 < sI t
  rotate_left
  · rw [if_neg cS, if_neg cS]
    exact bad
  rw [if_pos cS, if_pos cS]
  obtain ⟨i, hi, rfl⟩ := nat_lt' c0 cS (by omega)
  rw [mck_s (show i < 20000 by omega) (by omega), sI_nn (by omega), m_bit12 (t := t) (by rw [mset_n (by omega)]; exact h2) kt hi, mb3_s, mset_n (by omega), h21 i hi]
  exact ⟨0, M 822 i, A, _, Lc, Lm, rfl, rfl, by rw [mset_n (by omega), mset_s]; rfl, HS_821 (HS_0 h)⟩
