/-! CALLS: node, error -/
theorem st_lnode {fu : Nat} {a1 a2 : Int32} {A M : mwM} {Lc Lm : mwL} {Sb : Nat → Nat} (hfu : 5000 ≤ fu) (h : HS A M Lc Lm Sb) : CaQ mp32 Sb (DX11_node fu a1 a2 A Lc) (DX19_node fu a1 a2 M Lm) := by
  unfold DX11_node DX19_node fX11_node_b22 fX11_node_b41 fX11_node_b70 fX19_node_b20 fX19_node_b33 fX19_node_b38 fX19_node_b91
  simp only [mlet_e, mset_s]
  rw [if_neg (show ¬ (1 : Int32) ≤ 0 by decide), if_neg (show ¬ (2 : Int32) ≤ 0 by decide), if_pos (show (0 : Int32) ≤ 0 by decide)]
  have bad : CaQ mp32 Sb (some ((3, 0), A, Lc)) (some (0, mset M 732 0 1, Lm)) := ⟨3, 0, A, _, Lc, Lm, rfl, rfl, mset_s, HS_0 h⟩
  have bad2 : CaQ mp32 Sb (some ((2, 0), A, Lc)) (some (0, mset M 732 0 2, Lm)) := ⟨2, 0, A, _, Lc, Lm, rfl, rfl, mset_s, HS_0 h⟩
  rcases h.2.2.2.2 with ⟨c1, c2⟩ | ⟨c1, c2, C, S, F, W, R, X, T, t, E, d, tu, g, own, bd, si, p, o, e, ec, tc, fl, c3, c4, c5⟩
  · rw [if_pos c1, if_pos c2]
    exact bad
  rw [if_neg (show ¬ A 0 5 = 0 by rw [c1]; decide), if_neg (show ¬ M 732 4 = 0 by rw [c2]; decide)]
  have c3' := CAR_f (M' := mset M 732 0 0) c3 (fun _ _ _ => rfl) (fun a y u => mset_n (by omega))
  obtain ⟨hTk, _, _, ⟨F', ow, id', oc, dn, asl, hB⟩, hSl, _⟩ := c3'
  have s9 := hSl.2.2.2.2.2.2.2.2.1
  have s8 := hSl.2.2.2.2.2.2.2.1
  rw [mset_n (by omega)] at s8
  have hC := hSl.2.2.2.2.2.2.2.2.2.1
  have kt := hTk.2.2.2.2.2.2.2.2.2.2.2.2.2
  obtain ⟨⟨b1, ⟨b2, b3, b4⟩, b5, b6, b7, b8, b9, b10, b11, b12, b13, b14⟩, hNd, _⟩ := hB
  rw [s8, s9]
  by_cases c0 : a1 < 0
  · rw [if_pos c0, if_pos c0]
    exact bad
  rw [if_neg c0, if_neg c0]
  by_cases cS : a1 ≤ sI C
  rotate_left
  · rw [if_neg cS, if_neg cS]
    exact bad
  rw [if_pos cS, if_pos cS]
  obtain ⟨n, hn, rfl⟩ := nat_le (Int32.not_lt.mp c0) cS (by omega)
  by_cases d0 : a2 < 0
  · rw [if_pos d0, if_pos d0]
    exact bad2
  rw [if_neg d0, if_neg d0]
  by_cases d4 : a2 ≤ 2
  rotate_left
  · rw [if_neg d4, if_neg d4]
    exact bad2
  rw [if_pos d4, if_pos d4]
  obtain ⟨i, hi, rfl⟩ := nat_le (m := 2) (Int32.not_lt.mp d0) d4 (by omega)
  have ok : ∀ r : Int32, CaQ mp32 Sb (some ((0, r), A, Lc)) (some (r, mset (mset M 732 0 0) 821 0 0, Lm)) := fun r => ⟨0, r, A, _, Lc, Lm, rfl, rfl, by rw [mset_n (by omega), mset_s]; rfl, HS_821 (HS_0 h)⟩
  obtain ⟨x1, x2, _⟩ := b11 n (by omega)
  have hs7 : s7 tc ≤ 3600 := by
    have := b14
    unfold s7
    have q0 := (b14 0 (by omega)).2
    have q1 := (b14 1 (by omega)).2
    have q2 := (b14 2 (by omega)).2
    have q3 := (b14 3 (by omega)).2
    have q4 := (b14 4 (by omega)).2
    have q5 := (b14 5 (by omega)).2
    have q6 := (b14 6 (by omega)).2
    omega
  have : i = 0 ∨ i = 1 ∨ i = 2 := by omega
  rcases this with rfl | rfl | rfl
  · rw [if_pos (show sI 0 = (0 : Int32) from rfl), if_pos (show sI 0 = (0 : Int32) from rfl), m_state12 (N := C + 1) b3 (by omega) (by omega), mb3_s, show mck (0 : Int32) 8 (mck (sI n) 7 (some (((0 : Nat), A (25 + (0 : Int32).toNatClampNeg) (sI n).toNatClampNeg), A, Lc))) = some ((0, A 25 n), A, Lc) by
      rw [show (0 : Int32) = sI 0 from rfl, mck_s (by omega) (by omega), mck_s (by omega) (by omega), sI_nn (by omega), sI_nn (by omega)], ← NdR_25 (hNd n (by omega))]
    exact ok _
  · rw [if_neg (show ¬ sI 1 = (0 : Int32) by decide), if_pos (show sI 1 = (1 : Int32) from rfl), if_neg (show ¬ sI 1 = (0 : Int32) by decide), if_pos (show sI 1 = (1 : Int32) from rfl), m_waiting12 (N := C + 1) (by omega) b3 (by omega) (by omega) b6, mb3_s, show mck (5 : Int32) 8 (mck (sI n) 7 (some (((0 : Nat), A (25 + (5 : Int32).toNatClampNeg) (sI n).toNatClampNeg), A, Lc))) = some ((0, A 30 n), A, Lc) by
      rw [show (5 : Int32) = sI 5 from rfl, mck_s (by omega) (by omega), mck_s (by omega) (by omega), sI_nn (by omega), sI_nn (by omega)], x1]
    exact ok _
  · rw [if_neg (show ¬ sI 2 = (0 : Int32) by decide), if_neg (show ¬ sI 2 = (1 : Int32) by decide), if_neg (show ¬ sI 2 = (0 : Int32) by decide), if_neg (show ¬ sI 2 = (1 : Int32) by decide), m_takenC (N := C + 1) (by omega) b3 (by omega) (by omega) b12 hs7 b13, mb3_s, show mck (6 : Int32) 8 (mck (sI n) 7 (some (((0 : Nat), A (25 + (6 : Int32).toNatClampNeg) (sI n).toNatClampNeg), A, Lc))) = some ((0, A 31 n), A, Lc) by
      rw [show (6 : Int32) = sI 6 from rfl, mck_s (by omega) (by omega), mck_s (by omega) (by omega), sI_nn (by omega), sI_nn (by omega)], x2]
    exact ok _
