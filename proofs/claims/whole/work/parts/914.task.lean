/-! CALLS: running, task -/
theorem lg_lt' {a b : Nat} (ha : a < 2000000000) (hb : b < 2000000000) : (lg_cmp (sI a).toInt64 (sL b)) < 0 ↔ a < b := by
  rw [sI_L ha, lg_cmp_lt, sL_lt (by omega) (by omega)]
theorem st_lrunning {fu : Nat} {a1 a2 : Int32} {A M : mwM} {Lc Lm : mwL} {Sb : Nat → Nat} (h : HS A M Lc Lm Sb) : CaQ mp32 Sb (DX11_running fu a1 a2 A Lc) (DX19_running fu a1 a2 M Lm) := by
  unfold DX11_running DX19_running fX11_running_b37 fX19_running_b21 fX19_running_b26 fX19_running_b50
  rw [m_noCon, mb3_s]
  simp only [mlet_e, mset_s]
  rw [if_neg (show ¬ (1 : Int32) ≤ 0 by decide), if_pos (show (0 : Int32) ≤ 0 by decide)]
  have bad : CaQ mp32 Sb (some ((3, 0), A, Lc)) (some (0, mset M 732 0 1, Lm)) := ⟨3, 0, A, _, Lc, Lm, rfl, rfl, mset_s, HS_0 h⟩
  have n10 : ¬ (1 : Int32) = 0 := by decide
  rcases h.2.2.2.2 with ⟨c1, c2⟩ | ⟨c1, c2, C, S, F, W, R, X, T, t, E, d, tu, g, own, bd, si, p, o, e, ec, tc, fl, c3, c4, c5⟩
  · rw [if_pos c1, if_pos c2, if_neg n10]
    exact bad
  rw [if_neg (show ¬ A 0 5 = 0 by rw [c1]; decide), if_neg (show ¬ M 732 4 = 0 by rw [c2]; decide)]
  obtain ⟨hTk, hTr, hp, hBu, hSl, hCo, _⟩ := id c3
  have s9 := hSl.2.2.2.2.2.2.2.2.1
  have s8 := hSl.2.2.2.2.2.2.2.1
  have hC := hSl.2.2.2.2.2.2.2.2.2.1
  have k16 := hTk.2.2.2.2.2.2.2.2.2.2.2.1
  have k83 := hTk.2.2.2.2.2.2.2.2.2.2.2.2.1
  have kt := hTk.2.2.2.2.2.2.2.2.2.2.2.2.2
  rw [s8, s9, k16, k83]
  by_cases c0 : a1 < 0
  · rw [if_pos c0, if_pos c0, if_neg n10]
    exact bad
  rw [if_neg c0, if_neg c0]
  by_cases cS : a1 < sI C
  rotate_left
  · rw [if_pos (Int32.not_lt.mp cS), if_neg cS, if_neg n10]
    exact bad
  rw [if_neg (show ¬ sI C ≤ a1 from fun z => (Int32.not_lt.mpr z) cS), if_pos cS, if_pos (show (0 : Int32) = 0 from rfl)]
  obtain ⟨c, hc, rfl⟩ := nat_lt' c0 cS (by omega)
  by_cases d0 : a2 < 0
  · rw [if_pos d0, if_pos d0]
    exact bad
  rw [if_neg d0, if_neg d0]
  by_cases dS : a2 < sI t
  rotate_left
  · rw [if_neg dS, if_neg dS]
    exact bad
  rw [if_pos dS, if_pos dS]
  obtain ⟨s, hs, rfl⟩ := nat_lt' d0 dS (by omega)
  obtain ⟨tn, cn, U, cut, hRC, _, r43, _, _, _, _, _, _, hW⟩ := hCo
  obtain ⟨_, _, _, _, _, _, _, rC, _⟩ := hRC
  obtain ⟨v, v1, v2, v3⟩ := hW s hs
  rw [c_who (by omega) (by omega) v1 v2, mb3_s]
  have e2 : DX15_running fu (sI c) (sI s).toInt64 (mset M 732 0 0) Lm = some (sI (v c), mset M 732 0 0, Lm) := by
    unfold DX15_running fX15_running_b12 fX15_running_b29
    rw [if_neg c0, mset_n (show ¬ (787 = 732 ∧ 0 = 0) by omega), rC, if_pos cS, r43, if_neg (show ¬ (lg_cmp (sI s).toInt64 0) < 0 by
      rw [show (0 : Int64) = sL 0 from rfl, lg_lt' (by omega) (by omega)]; omega), if_pos (show (lg_cmp (sI s).toInt64 (sL t)) < 0 by rw [lg_lt' (by omega) (by omega)]; exact hs), show ((sI s).toInt64).toInt32 = sI s by simp, show (20000 : Int32) * sI c + sI s = sI (20000 * c + s) by rw [show (20000 : Int32) * sI c = sI (20000 * c) from sI_lml, sI_add], mck_s (by omega) (by omega), sI_nn (by omega), mset_n (by omega), v3 c hc]
  rw [e2, mb3_s]
  exact ⟨0, _, A, _, Lc, Lm, rfl, rfl, mset_s, HS_0 h⟩
theorem st_ltask {fu : Nat} {a1 a2 : Int32} {A M : mwM} {Lc Lm : mwL} {Sb : Nat → Nat} (h : HS A M Lc Lm Sb) : CaQ mp32 Sb (DX11_task fu a1 a2 A Lc) (DX19_task fu a1 a2 M Lm) := by
  unfold DX11_task DX19_task fX11_task_b25 fX11_task_b44 fX11_task_b74 fX19_task_b20 fX19_task_b33 fX19_task_b38 fX19_task_b92
  simp only [mlet_e, mset_s]
  rw [if_neg (show ¬ (1 : Int32) ≤ 0 by decide), if_neg (show ¬ (2 : Int32) ≤ 0 by decide), if_pos (show (0 : Int32) ≤ 0 by decide)]
  have bad : CaQ mp32 Sb (some ((3, 0), A, Lc)) (some (0, mset M 732 0 1, Lm)) := ⟨3, 0, A, _, Lc, Lm, rfl, rfl, mset_s, HS_0 h⟩
  have bad2 : CaQ mp32 Sb (some ((2, 0), A, Lc)) (some (0, mset M 732 0 2, Lm)) := ⟨2, 0, A, _, Lc, Lm, rfl, rfl, mset_s, HS_0 h⟩
  rcases h.2.2.2.2 with ⟨c1, c2⟩ | ⟨c1, c2, C, S, F, W, R, X, T, t, E, d, tu, g, own, bd, si, p, o, e, ec, tc, fl, c3, c4, c5⟩
  · rw [if_pos c1, if_pos c2]
    exact bad
  rw [if_neg (show ¬ A 0 5 = 0 by rw [c1]; decide), if_neg (show ¬ M 732 4 = 0 by rw [c2]; decide)]
  obtain ⟨hTk, hTr, hp, hBu, hSl, hCo, hCx, h17, _⟩ := id c3
  have w11 := hSl.2.2.2.2.2.2.2.2.2.2.1
  obtain ⟨tn, cn, U, cut, hRC, _, _, kt, _, _, kU, _⟩ := hCo
  obtain ⟨rT, _, _, _, r5, r6, _, rC, _, _, _, _, _, _, _, rI, _⟩ := hRC
  rw [r5, w11]
  by_cases c0 : a1 < 0
  · rw [if_pos c0, if_pos c0]
    exact bad
  rw [if_neg c0, if_neg c0]
  by_cases cS : a1 < sI T
  rotate_left
  · rw [if_neg cS, if_neg cS]
    exact bad
  rw [if_pos cS, if_pos cS]
  obtain ⟨n, hn, rfl⟩ := nat_lt' c0 cS (by omega)
  by_cases d0 : a2 < 0
  · rw [if_pos d0, if_pos d0]
    exact bad2
  rw [if_neg d0, if_neg d0]
  by_cases d4 : a2 ≤ 2
  rotate_left
  · rw [if_neg d4, if_neg d4]
    exact bad2
  rw [if_pos d4, if_pos d4]
  obtain ⟨i, hi, rfl⟩ := nat_le (m := 2) (Int32.not_lt.mp d0) d4 (by omega)
  have ok : ∀ r : Int32, CaQ mp32 Sb (some ((0, r), A, Lc)) (some (r, mset M 732 0 0, Lm)) := fun r => ⟨0, r, A, _, Lc, Lm, rfl, rfl, mset_s, HS_0 h⟩
  obtain ⟨rk, co, pe, mi, nx, st, lf, wa, tu', us, dn, q1, q2, q3⟩ := rI n hn
  have t12 : A 12 n = sI st := q2.2.2.2.2.2.1
  have t16 : A 16 n = sI us := q2.2.2.2.2.2.2.2.2.2.1
  have m96 : M 796 (n + 1) = sI st := q3.2.2.2.2.2.2.2.1
  have m05 : Lm 805 (n + 1) = sL us := q3.2.2.2.2.2.2.2.2.2.2.2.1
  have hus : us < 200000 := by
    have : us < U := q1.2.2.2.2.2.2.2.2.2.2.2.1
    omega
  have ck : ∀ j : Nat, j < 11 → mck (sI j) 11 (mck (sI n) 12 (some (((0 : Nat), A (7 + (sI j).toNatClampNeg) (sI n).toNatClampNeg), A, Lc))) = some ((0, A (7 + j) n), A, Lc) := fun j hj => by
    rw [mck_s hj (by omega), mck_s (by omega) (by omega), sI_nn (by omega), sI_nn (by omega)]
  have : i = 0 ∨ i = 1 ∨ i = 2 := by omega
  rcases this with rfl | rfl | rfl
  · have e2 : DX15_state fu (sI (n + 1)) (mset M 732 0 0) Lm = some (sI st, mset M 732 0 0, Lm) := by
      unfold DX15_state DX15_no fX15_no_b18 fX15_state_b18
      rw [if_neg (show ¬ sI (n + 1) < 1 by rw [sI_ltl (by omega) (by decide)]; omega), mset_n (show ¬ (787 = 732 ∧ 1 = 0) by omega), r6, if_pos (show sI (n + 1) ≤ sI T by rw [sI_le (by omega) (by omega)]; omega), mzz_0, mb3_s, if_pos (show (0 : Int32) = 0 from rfl), mck_s (by omega) (by omega), sI_nn (by omega), mset_n (by omega), m96]
    rw [if_pos (show sI 0 = (0 : Int32) from rfl), if_pos (show sI 0 = (0 : Int32) from rfl), sI_1, e2, mb3_s, show (5 : Int32) = sI 5 from rfl, ck 5 (by omega), t12]
    exact ok _
  · rw [if_neg (show ¬ sI 1 = (0 : Int32) by decide), if_pos (show sI 1 = (1 : Int32) from rfl), if_neg (show ¬ sI 1 = (0 : Int32) by decide), if_pos (show sI 1 = (1 : Int32) from rfl), sI_1, m_used rT hn (by rw [mset_n (by omega)]; exact r6), mb3_s, show (9 : Int32) = sI 9 from rfl, ck 9 (by omega), t16, m05, show (sL us).toInt32 = sI us by
      rw [← sI_L (show us < 2000000000 by omega)]; simp]
    exact ok _
  · rw [if_neg (show ¬ sI 2 = (0 : Int32) by decide), if_neg (show ¬ sI 2 = (1 : Int32) by decide), if_neg (show ¬ sI 2 = (0 : Int32) by decide), if_neg (show ¬ sI 2 = (1 : Int32) by decide), show (10 : Int32) = sI 10 from rfl, ck 10 (by omega), h17 n hn, mck_s (by omega) (by omega), sI_nn (by omega), mset_n (by omega)]
    exact ok _
