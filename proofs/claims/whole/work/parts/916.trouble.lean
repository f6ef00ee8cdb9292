/-! CALLS: trouble, cycle -/
theorem st_ltrouble {fu : Nat} {a1 a2 : Int32} {A M : mwM} {Lc Lm : mwL} {Sb : Nat → Nat} (hfu : 100 ≤ fu) (h : HS A M Lc Lm Sb) : CaQ mp32 Sb (DX11_trouble fu a1 a2 A Lc) (DX19_trouble fu a1 a2 M Lm) := by
  unfold DX11_trouble DX19_trouble fX11_trouble_b25 fX11_trouble_b44 fX19_trouble_b20 fX19_trouble_b33 fX19_trouble_b38 fX19_trouble_b115 fX19_trouble_b85
  simp only [mlet_e, mset_s]
  rw [if_neg (show ¬ (1 : Int32) ≤ 0 by decide), if_neg (show ¬ (2 : Int32) ≤ 0 by decide), if_pos (show (0 : Int32) ≤ 0 by decide)]
  have bad : CaQ mp32 Sb (some ((3, 0), A, Lc)) (some (0, mset M 732 0 1, Lm)) := ⟨3, 0, A, _, Lc, Lm, rfl, rfl, mset_s, HS_0 h⟩
  have bad2 : CaQ mp32 Sb (some ((2, 0), A, Lc)) (some (0, mset M 732 0 2, Lm)) := ⟨2, 0, A, _, Lc, Lm, rfl, rfl, mset_s, HS_0 h⟩
  rcases h.2.2.2.2 with ⟨c1, c2⟩ | ⟨c1, c2, C, S, F, W, R, X, T, t, E, d, tu, g, own, bd, si, p, o, e, ec, tc, fl, c3, c4, c5⟩
  · rw [if_pos c1, if_pos c2]
    exact bad
  rw [if_neg (show ¬ A 0 5 = 0 by rw [c1]; decide), if_neg (show ¬ M 732 4 = 0 by rw [c2]; decide)]
  have c3' := CAR_f (M' := mset M 732 0 0) c3 (fun _ _ _ => rfl) (fun a y u => mset_n (by omega))
  obtain ⟨hTk, hTr, hp, hBu, hSl, hCo, hCx, h17, h924, h0, h4, hE, hbd⟩ := c3'
  have kt := hTk.2.2.2.2.2.2.2.2.2.2.2.2.2
  obtain ⟨w1, w2, w3, w4⟩ := hTk.2.2.2.2.1
  rw [mset_n (by omega)] at w2
  have hT := hTk.2.2.2.2.2.1
  rw [w1, w2]
  by_cases c0 : a1 < 0
  · rw [if_pos c0, if_pos c0]
    exact bad
  rw [if_neg c0, if_neg c0]
  by_cases cS : a1 < sI W
  rotate_left
  · rw [if_neg cS, if_neg cS]
    exact bad
  rw [if_pos cS, if_pos cS]
  obtain ⟨n, hn, rfl⟩ := nat_lt' c0 cS (by omega)
  by_cases d0 : a2 < 0
  · rw [if_pos d0, if_pos d0]
    exact bad2
  rw [if_neg d0, if_neg d0]
  by_cases d4 : a2 ≤ 4
  rotate_left
  · rw [if_neg d4, if_neg d4]
    exact bad2
  rw [if_pos d4, if_pos d4]
  obtain ⟨i, hi, rfl⟩ := nat_le (m := 4) (Int32.not_lt.mp d0) d4 (by omega)
  have ok : ∀ r : Int32, CaQ mp32 Sb (some ((0, r), A, Lc)) (some (r, mset (mset M 732 0 0) 902 0 0, Lm)) := fun r => ⟨0, r, A, _, Lc, Lm, rfl, rfl, by rw [mset_n (by omega), mset_s]; rfl, HS_e h (fun _ _ _ _ => rfl) (fun a y u1 u2 u3 u4 u5 u6 u7 u8 => by rw [mset_n (by omega), mset_n (by omega)]) (fun _ _ => rfl) (fun _ _ _ => rfl)⟩
  obtain ⟨_, _, _, _, _, _, w777, _⟩ := w4 n hn
  rw [mck_s (show n < 30 by omega) (by omega), sI_nn (by omega), w777]
  have : i = 0 ∨ i = 1 ∨ i = 2 ∨ i = 3 ∨ i = 4 := by omega
  rcases this with rfl | rfl | rfl | rfl | rfl
  · obtain ⟨q, _, q1, _, q3⟩ := st_status (fu := fu) (L := Lc) (L2 := Lm) (by omega) hn hT
    have e1 : DX10_tell fu (sI n) (sI 0) A Lc = some (sI q, A, Lc) := by
      unfold DX10_tell
      rw [mlet_e, if_pos (show sI 0 = (0 : Int32) from rfl), mck_s (show n < 30 by omega) (by omega), sI_nn (by omega), q1]
    rw [e1, mb3_s, if_neg (show ¬ (2 : Int32) ≤ sI 0 by decide), if_pos (show sI 0 = (0 : Int32) from rfl), q3, mb3_s]
    exact ok _
  · have q3 := st_age (fu := fu) (L2 := Lm) hn hT
    have e1 : DX10_tell fu (sI n) (sI 1) A Lc = some (A 149 n, A, Lc) := by
      unfold DX10_tell
      rw [mlet_e, if_neg (show ¬ sI 1 = (0 : Int32) by decide), if_pos (show sI 1 = (1 : Int32) from rfl), mck_s (show n < 30 by omega) (by omega), sI_nn (by omega)]
    rw [e1, mb3_s, if_neg (show ¬ (2 : Int32) ≤ sI 1 by decide), if_neg (show ¬ sI 1 = (0 : Int32) by decide), q3, mb3_s]
    exact ok _
  · obtain ⟨q, q1, q2⟩ := st_snap (fu := fu) (w := 0) (L := Lc) (L2 := Lm) (by omega) (by omega) hn (by omega) hT
    rw [show DX10_tell fu (sI n) (sI 2) A Lc = _ from q1, mb3_s, if_pos (show (2 : Int32) ≤ sI 2 by decide), if_neg (show ¬ sI 2 = (4 : Int32) by decide), show sI 2 - (2 : Int32) = sI 0 by decide, q2, mb3_s]
    exact ok _
  · obtain ⟨q, q1, q2⟩ := st_snap (fu := fu) (w := 1) (L := Lc) (L2 := Lm) (by omega) (by omega) hn (by omega) hT
    rw [show DX10_tell fu (sI n) (sI 3) A Lc = _ from q1, mb3_s, if_pos (show (2 : Int32) ≤ sI 3 by decide), if_neg (show ¬ sI 3 = (4 : Int32) by decide), show sI 3 - (2 : Int32) = sI 1 by decide, q2, mb3_s]
    exact ok _
  · obtain ⟨q, q1, q2⟩ := st_stored (fu := fu) (L := Lc) (L2 := Lm) (by omega) (by omega) hn hT
    rw [show DX10_tell fu (sI n) (sI 4) A Lc = _ from q1, mb3_s, if_pos (show (2 : Int32) ≤ sI 4 by decide), if_pos (show sI 4 = (4 : Int32) from rfl), q2, mb3_s]
    exact ok _
theorem st_lcycle {fu ts : Nat} {A M : mwM} {Lc Lm : mwL} {Sb : Nat → Nat} (hfu : 100 ≤ fu) (hts : ts < 2) (h : HS A M Lc Lm Sb) : CaQ (fun w => w) Sb (DX11_cycle fu (sI ts) A Lc) (DX19_cycle fu (sI ts) M Lm) := by
  unfold DX11_cycle DX19_cycle fX19_cycle_b13 fX19_cycle_b35
  simp only [mlet_e, mset_s]
  rw [if_neg (show ¬ (1 : Int32) ≤ 0 by decide), if_pos (show (0 : Int32) ≤ 0 by decide)]
  rcases h.2.2.2.2 with ⟨c1, c2⟩ | ⟨c1, c2, C, S, F, W, R, X, T, t, E, d, tu, g, own, bd, si, p, o, e, ec, tc, fl, c3, c4, c5⟩
  · rw [if_pos c1, if_pos c2]
    exact ⟨1, 0, A, _, Lc, Lm, rfl, rfl, mset_s, HS_0 h⟩
  rw [if_neg (show ¬ A 0 5 = 0 by rw [c1]; decide), if_neg (show ¬ M 732 4 = 0 by rw [c2]; decide)]
  have c3' := CAR_f (M' := mset M 732 0 0) c3 (fun _ _ _ => rfl) (fun a y u => mset_n (by omega))
  obtain ⟨hTk, hTr, hp, hBu, hSl, _⟩ := id c3'
  obtain ⟨x, A', M', x1, x2, x3, x4, x5⟩ := st_cycle (fu := fu) (L := Lc) (L2 := Lm) (by omega) hts hTk.2.2.2.2.2.1
  rw [x1, mb3_s, x2, mb3_s]
  have fA : ∀ a y, ¬ (a = 139 ∧ y ≠ 2) → ¬ (145 ≤ a ∧ a ≤ 153) → A' a y = A a y := fun a y u1 u2 => x4 a y (by omega) (by omega)
  have fM : ∀ a y, ¬ (a = 732 ∧ y = 0) → ¬ (902 ≤ a ∧ a ≤ 920) → M' a y = M a y := fun a y u1 u2 => by rw [x5 a y u2, mset_n u1]
  refine ⟨0, x, A', M', Lc, Lm, rfl, rfl, by rw [x5 _ _ (by omega), mset_s]; rfl, ?_⟩
  exact HS_c h (CAR_x (si' := si) c3 (TrB_f hTr (fun a y u => fA a y (by omega) (by omega)) (fun a y u => x5 a y (by omega)) (fun _ _ _ _ => rfl)) hp (BusE_fr hBu (fun a y u1 u2 => fA a y (by omega) (by omega)) (fun a y u1 u2 u3 => x5 a y (by omega))) x3 (fun c hc => by rw [fA _ _ (by omega) (by omega), x5 _ _ (by omega)]; exact hSl.2.2.2.2.2.1 c hc) (fun a y u1 u2 u3 u4 u5 u6 u7 => fA a y u5 (by omega)) (fun a y u1 u2 u3 u4 u5 u6 u7 u8 u9 => fM a y (by omega) (by omega)) (fun _ _ => rfl) (fun _ _ _ => rfl)) c1 c2 (by rw [fA _ _ (by omega) (by omega)]; exact c4) c5 (fun a y u1 u2 => fA a y (by omega) (by omega)) (fun a y u => fM a y (by omega) (by omega)) (fun _ _ => rfl) (fun _ _ _ => rfl)
