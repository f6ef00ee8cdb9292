/-! CALLS: trouble, cycle -/
theorem st_ltrouble {fu : Nat} {a1 a2 : Int32} {A M : mwM} {Lc Lm : mwL} {Sb : Nat → Nat} (hfu : 100 ≤ fu) (h : HS A M Lc Lm Sb) : CaQ mp32 Sb (DX11_trouble fu a1 a2 A Lc) (DX19_trouble fu a1 a2 M Lm) := by
  unfold DX11_trouble DX19_trouble fX11_trouble_b25 fX11_trouble_b44 fX19_trouble_b20 fX19_trouble_b33 fX19_trouble_b38 fX19_trouble_b115 fX19_trouble_b85
  simp only [mlet_e, mset_s]
  rw [if_neg (show ¬ (1 : Int32) ≤ 0 by decide), if_neg (show ¬ (2 : Int32) ≤ 0 by decide), if_pos (show (0 : Int32) ≤ 0 by decide)]
  have bad : CaQ mp32 Sb (some ((3, 0), A, Lc)) (some (0, mset M 732 0 1, Lm)) := ⟨3, 0, A, _, Lc, Lm, rfl, rfl, mset_s, HS_0 h⟩
  have bad2 : CaQ mp32 Sb (some ((2, 0), A, Lc)) (some (0, mset M 732 0 2, Lm)) := ⟨2, 0, A, _, Lc, Lm, rfl, rfl, mset_s, HS_0 h⟩
  rcases h.2.2.2.2 with ⟨c1, c2⟩ | ⟨c1, c2, C, S, F, W, R, X, T, t, E, d, tu, g, own, bd, si, p, o, e, ec, tc, fl, c3, c4, c5⟩
  · rw [if_pos c1, if_pos c2]
    exact bad
  rw [if_neg (show ¬ A 0 5 = 0 by rw [c1]; decide), if_neg (show ¬ M 732 4 = 0 by rw [c2]; decide)]
  have c3' := CAR_f (M' := mset M 732 0 0) c3 (fun _ _ _ => rfl) (fun a y u => mset_n (by omega))
  obtain ⟨hTk, hTr, hp, hBu, hSl, hCo, hCx, h17, h924, h0, h4, hE, hbd⟩ := c3'
  have kt := hTk.2.2.2.2.2.2.2.2.2.2.2.2.2
  obtain ⟨w1, w2, w3, w4⟩ := hTk.2.2.2.2.1
  rw [mset_n (by omega)] at w2
  have hT := hTk.2.2.2.2.2.1
  rw [w1, w2]
  by_cases c0 : a1 < 0
  · rw [if_pos c0, if_pos c0]
    exact bad
  rw [if_neg c0, if_neg c0]
  by_cases cS : a1 < sI W
  rotate_left
  · rw [if_neg cS, if_neg cS]
    exact bad
  rw [if_pos cS, if_pos cS]
  obtain ⟨n, hn, rfl⟩ := nat_lt' c0 cS (by omega)
  by_cases d0 : a2 < 0
  · rw [if_pos d0, if_pos d0]
    exact bad2
  rw [if_neg d0, if_neg d0]
  by_cases d4 : a2 ≤ 4
  rotate_left
  · rw [if_neg d4, if_neg d4]
    exact bad2
  rw [if_pos d4, if_pos d4]
  obtain ⟨i, hi, rfl⟩ := nat_le (m := 4) (Int32.not_lt.mp d0) d4 (by omega)
  have ok : ∀ r : Int32, CaQ mp32 Sb (some ((0, r), A, Lc)) (some (r, mset (mset M 732 0 0) 902 0 0, Lm)) := fun r => ⟨0, r, A, _, Lc, Lm, rfl, rfl, by rw [mset_n (by omega), mset_s]; rfl, HS_e h (fun _ _ _ _ => rfl) (fun a y u1 u2 u3 u4 u5 u6 u7 u8 => by rw [mset_n (by omega), mset_n (by omega)]) (fun _ _ => rfl) (fun _ _ _ => rfl)⟩
  obtain ⟨_, _, _, _, _, _, w777, _⟩ := w4 n hn
  rw [mck_s (show n < 30 by omega) (by omega), sI_nn (by omega), w777]
  have : i = 0 ∨ i = 1 ∨ i = 2 ∨ i = 3 ∨ i = 4 := by omega
  rcases this with rfl | rfl | rfl | rfl | rfl
  · obtain ⟨q, _, q1, _, q3⟩ := st_status (fu := fu) (L := Lc) (L2 := Lm) (by omega) hn hT
    have e1 : DX10_tell fu (sI n) (sI 0) A Lc = some (sI q, A, Lc) := by
      unfold DX10_tell
      rw [mlet_e, if_pos (show sI 0 = (0 : Int32) from rfl), mck_s (show n < 30 by omega) (by omega), sI_nn (by omega), q1]
    rw [e1, mb3_s, if_neg (show ¬ (2 : Int32) ≤ sI 0 by decide), if_pos (show sI 0 = (0 : Int32) from rfl), q3, mb3_s]
    exact ok _
  · have q3 := st_age (fu := fu) (L2 := Lm) hn hT
    have e1 : DX10_tell fu (sI n) (sI 1) A Lc = some (A 149 n, A, Lc) := by
      unfold DX10_tell
      rw [mlet_e, if_neg (show ¬ sI 1 = (0 : Int32) by decide), if_pos (show sI 1 = (1 : Int32) from rfl), mck_s (show n < 30 by omega) (by omega), sI_nn (by omega)]
    rw [e1, mb3_s, if_neg (show ¬ (2 : Int32) ≤ sI 1 by decide), if_neg (show ¬ sI 1 = (0 : Int32) by decide), q3, mb3_s]
    exact ok _
  · obtain ⟨q, q1, q2⟩ := st_snap (fu := fu) (w := 0) (L := Lc) (L2 := Lm) (by omega) (by omega) hn (by omega) hT
    rw [show DX10_tell fu (sI n) (sI 2) A Lc = _ from q1, mb3_s, if_pos (show (2 : Int32) ≤ sI 2 by decide), if_neg (show ¬ sI 2 = (4 : Int32) by decide), show sI 2 - (2 : Int32) = sI 0 by decide, q2, mb3_s]
    exact ok _
  · obtain ⟨q, q1, q2⟩ := st_snap (fu := fu) (w := 1) (L := Lc) (L2 := Lm) (by omega) (by omega) hn (by omega) hT
    rw [show DX10_tell fu (sI n) (sI 3) A Lc = _ from q1, mb3_s, if_pos (show (2 : Int32) ≤ sI 3 by decide), if_neg (show ¬ sI 3 = (4 : Int32) by decide), show sI 3 - (2 : Int32) = sI 1 by decide, q2, mb3_s]
    exact ok _
  · obtain ⟨q, q1, q2⟩ := st_stored (fu := fu) (L := Lc) (L2 := Lm) (by omega) (by omega) hn hT
    rw [show DX10_tell fu (sI n) (sI 4) A Lc = _ from q1, mb3_s, if_pos (show (2 : Int32) ≤ sI 4 by decide), if_pos (show sI 4 = (4 : Int32) from rfl), q2, mb3_s]
    exact ok _
theorem st_lcycle {fu ts : Nat} {A M : mwM} {Lc Lm : mwL} {Sb : Nat → Nat} (hfu : 100 ≤ fu) (hts : ts < 2) (h : HS A M Lc Lm Sb) : CaQ (fun w => w) Sb (DX11_cycle fu (sI ts) A Lc) (DX19_cycle fu (sI ts) M Lm) := by
  unfold DX11_cycle DX19_cycle fX19_cycle_b13 fX19_cycle_b35
  simp only [mlet_e, mset_s]
  rw [if_neg (show ¬ (1 : Int32) ≤ 0 by decide), if_pos (show (0 : Int32) ≤ 0 by decide)]
  rcases h.2.2.2.2 with ⟨c1, c2⟩ | ⟨c1, c2, C, S, F, W, R, X, T, t, E, d, tu, g, own, bd, si, p, o, e, ec, tc, fl, c3, c4, c5⟩
  · rw [if_pos c1, if_pos c2]
    exact ⟨1, 0, A, _, Lc, Lm, rfl, rfl, mset_s, HS_0 h⟩
  rw [if_neg (show ¬ A 0 5 = 0 by rw [c1]; decide), if_neg (show ¬ M 732 4 = 0 by rw [c2]; decide)]
  have c3' := CAR_f (M' := mset M 732 0 0) c3 (fun _ _ _ => rfl) (fun a y u => mset_n (by omega))
  obtain ⟨hTk, hTr, hp, hBu, hSl, _⟩ := id c3'
  obtain ⟨x, A', M', x1, x2, x3, x4, x5⟩ := st_cycle (fu := fu) (L := Lc) (L2 := Lm) (by omega) hts hTk.2.2.2.2.2.1
  rw [x1, mb3_s, x2, mb3_s]
  have fA : ∀ a y, ¬ (a = 139 ∧ y ≠ 2) → ¬ (145 ≤ a ∧ a ≤ 153) → A' a y = A a y := fun a y u1 u2 => x4 a y (by omega) (by omega)
  have fM : ∀ a y, ¬ (a = 732 ∧ y = 0) → ¬ (902 ≤ a ∧ a ≤ 920) → M' a y = M a y := fun a y u1 u2 => by rw [x5 a y u2, mset_n u1]
  refine ⟨0, x, A', M', Lc, Lm, rfl, rfl, by rw [x5 _ _ (by omega), mset_s]; rfl, ?_⟩
  exact HS_c h (CAR_x (si' := si) c3 (TrB_f hTr (fun a y u => fA a y (by omega) (by omega)) (fun a y u => x5 a y (by omega)) (fun _ _ _ _ => rfl)) hp (BusE_fr hBu (fun a y u1 u2 => fA a y (by omega) (by omega)) (fun a y u1 u2 u3 => x5 a y (by omega))) x3 (fun c hc => by rw [fA _ _ (by omega) (by omega), x5 _ _ (by omega)]; exact hSl.2.2.2.2.2.1 c hc) (fun a y u1 u2 u3 u4 u5 u6 u7 => fA a y u5 (by omega)) (fun a y u1 u2 u3 u4 u5 u6 u7 u8 u9 => fM a y (by omega) (by omega)) (fun _ _ => rfl) (fun _ _ _ => rfl)) c1 c2 (by rw [fA _ _ (by omega) (by omega)]; exact c4) c5 (fun a y u1 u2 => fA a y (by omega) (by omega)) (fun a y u => fM a y (by omega) (by omega)) (fun _ _ => rfl) (fun _ _ _ => rfl)
/-! CALLS: say, ask -/
/-- what has been said and not yet asked -/
def SyR (A M : mwM) : Prop := ∃ (n : Nat) (v : Nat → Nat), n ≤ 100 ∧ A 0 3 = sI n ∧ M 732 110 = sI n ∧ ∀ j, j < n → v j < 256 ∧ A 731 j = sI (v j) ∧ M 940 j = sI (v j)
theorem st_lsay {fu : Nat} {a1 : Int32} {A M : mwM} {Lc Lm : mwL} {Sb : Nat → Nat} (hs : SyR A M) (h : HS A M Lc Lm Sb) : ∃ r A' M', DX11_say fu a1 A Lc = some (r, A', Lc) ∧ DX19_say_ fu a1 M Lm = some (r, M', Lm) ∧ HS A' M' Lc Lm Sb ∧ SyR A' M' := by
  obtain ⟨n, v, n1, n2, n3, n4⟩ := hs
  unfold DX11_say DX19_say_ fX11_say_b33 fX19_say__b38
  simp only [mlet_e]
  rw [mset_n (show ¬ (732 = 732 ∧ 110 = 0) by omega), n2, n3]
  by_cases c : n = 100
  · rw [if_pos (show (100 : Int32) ≤ sI n by rw [c]; decide), if_pos (show (100 : Int32) ≤ sI n by rw [c]; decide)]
    exact ⟨sI n, A, _, rfl, rfl, HS_0 h, n, v, n1, n2, by rw [mset_n (by omega)]; exact n3, fun j hj => by rw [mset_n (by omega)]; exact n4 j hj⟩
  have nc : ¬ (100 : Int32) ≤ sI n := by rw [show (100 : Int32) = sI 100 from rfl, sI_le (by omega) (by omega)]; omega
  obtain ⟨w, hw, ew⟩ := and_255n a1
  rw [if_neg nc, if_neg nc, mck_s (show n < 100 by omega) (by omega), mck_s (show n < 100 by omega) (by omega), sI_nn (by omega), ew, mset_n (show ¬ (0 = 731 ∧ 3 = n) by omega), n2, mset_n (show ¬ (732 = 940 ∧ 110 = n) by omega), mset_n (show ¬ (732 = 732 ∧ 110 = 0) by omega), n3, sI_1, mset_s, mset_s]
  refine ⟨sI (n + 1), _, _, rfl, rfl, HS_e h (fun a y u1 u2 => by rw [mset_n (by omega), mset_n (by omega)]) (fun a y u1 u2 u3 u4 u5 u6 u7 u8 => by rw [mset_n (by omega), mset_n (by omega), mset_n (by omega)]) (fun _ _ => rfl) (fun _ _ _ => rfl), n + 1, fun j => if j = n then w else v j, by omega, mset_s, mset_s, fun j hj => ?_⟩
  dsimp only
  by_cases e : j = n
  · subst e
    rw [if_pos rfl, mset_n (by omega), mset_s, mset_n (by omega), mset_s]
    exact ⟨hw, rfl, rfl⟩
  · rw [if_neg e, mset_n (by omega), mset_n (by omega), mset_n (by omega), mset_n (by omega), mset_n (by omega)]
    exact n4 j (by omega)
abbrev mp31 (w : Nat) : Nat := if w = 3 then 1 else if w = 1 then 2 else w
theorem m_askL {fu n : Nat} {a1 : Int32} {M : mwM} {L : mwL} {v : Nat → Nat} (hn : n ≤ 100) (h940 : ∀ j, j < n → v j < 256 ∧ M 940 j = sI (v j)) : ∀ (m j f : Nat) (B : mwM), j + m = n → m < f → (∀ i, i < j → B 933 i = sI (v i)) → (∀ a y, a ≠ 933 → B a y = M a y) → ∃ B', fX19_ask_h60 fu a1 f (sI n, sI j, B, L) = mb2 (DX19_say fu a1 1 (mset (mset (mset (mset B' 732 102 (sI n)) 732 110 0) 732 97 a1) 732 98 0) L) (fun M9 L10 => some (sI n, M9, L10)) ∧ (∀ i, i < n → B' 933 i = sI (v i)) ∧ ∀ a y, a ≠ 933 → B' a y = M a y := by
  intro m
  induction m with
  | zero =>
    intro j f B hj hf h1 h2
    obtain ⟨f, rfl⟩ : ∃ y, f = y + 1 := ⟨f - 1, by omega⟩
    refine ⟨B, ?_, fun i hi => h1 i (by omega), h2⟩
    show fX19_ask_i60 fu a1 (fX19_ask_h60 fu a1 f) (sI n) (sI j) B L = _
    unfold fX19_ask_i60
    rw [if_pos (show sI n ≤ sI j by rw [sI_le (by omega) (by omega)]; omega)]
    rfl
  | succ m ih =>
    intro j f B hj hf h1 h2
    obtain ⟨f, rfl⟩ : ∃ y, f = y + 1 := ⟨f - 1, by omega⟩
    obtain ⟨B', x1, x2, x3⟩ := ih (j + 1) f (mset B 933 j (sI (v j))) (by omega) (by omega) (fun i hi => by
      by_cases e : i = j
      · rw [e, mset_s]
      · rw [mset_n (by omega)]; exact h1 i (by omega)) (fun a y u => by rw [mset_n (by omega)]; exact h2 a y u)
    refine ⟨B', ?_, x2, x3⟩
    rw [← x1]
    show fX19_ask_i60 fu a1 (fX19_ask_h60 fu a1 f) (sI n) (sI j) B L = _
    unfold fX19_ask_i60
    rw [if_neg (show ¬ sI n ≤ sI j by rw [sI_le (by omega) (by omega)]; omega), mck_s (by omega) (by omega), mck_s (by omega) (by omega), mlet_e, mlet_e, sI_nn (by omega), h2 940 j (by omega), (h940 j (by omega)).2, sI_1]
theorem st_lask {fu : Nat} {a1 : Int32} {A M : mwM} {Lc Lm : mwL} {Sb : Nat → Nat} (hfu : 200 ≤ fu) (hs : SyR A M) (h : HS A M Lc Lm Sb) : ∃ (w : Nat) (r : Int32) (A' M' : mwM), DX11_ask fu a1 A Lc = some ((w, r), A', Lc) ∧ DX19_ask fu a1 M Lm = some (r, M', Lm) ∧ M' 732 0 = sI (mp31 w) ∧ HS A' M' Lc Lm Sb ∧ SyR A' M' := by
  obtain ⟨n, v, n1, n2, n3, n4⟩ := id hs
  have hs0 : ∀ k : Int32, SyR A (mset M 732 0 k) := fun k => ⟨n, v, n1, n2, by rw [mset_n (by omega)]; exact n3, fun j hj => by rw [mset_n (by omega)]; exact n4 j hj⟩
  unfold DX11_ask DX19_ask fX11_ask_b22 fX11_ask_b64 fX19_ask_b36 fX19_ask_b41
  rw [m_noCon, mb3_s]
  simp only [mlet_e, mset_s]
  rw [if_neg (show ¬ (1 : Int32) ≤ 0 by decide), if_neg (show ¬ (2 : Int32) ≤ 0 by decide), if_pos (show (0 : Int32) ≤ 0 by decide)]
  have bad : ∃ (w : Nat) (r : Int32) (A' M' : mwM), some (((3 : Nat), (0 : Int32)), A, Lc) = some ((w, r), A', Lc) ∧ some ((0 : Int32), mset M 732 0 1, Lm) = some (r, M', Lm) ∧ M' 732 0 = sI (mp31 w) ∧ HS A' M' Lc Lm Sb ∧ SyR A' M' := ⟨3, 0, A, _, rfl, rfl, mset_s, HS_0 h, hs0 _⟩
  have bad2 : ∃ (w : Nat) (r : Int32) (A' M' : mwM), some (((1 : Nat), (0 : Int32)), A, Lc) = some ((w, r), A', Lc) ∧ some ((0 : Int32), mset M 732 0 2, Lm) = some (r, M', Lm) ∧ M' 732 0 = sI (mp31 w) ∧ HS A' M' Lc Lm Sb ∧ SyR A' M' := ⟨1, 0, A, _, rfl, rfl, mset_s, HS_0 h, hs0 _⟩
  have n10 : ¬ (1 : Int32) = 0 := by decide
  rcases h.2.2.2.2 with ⟨c1, c2⟩ | ⟨c1, c2, C, S, F, W, R, X, T, t, E, d, tu, g, own, bd, si, p, o, e, ec, tc, fl, c3, c4, c5⟩
  · rw [if_pos c1, if_pos c2, if_neg n10]
    exact bad
  rw [if_neg (show ¬ A 0 5 = 0 by rw [c1]; decide), if_neg (show ¬ M 732 4 = 0 by rw [c2]; decide)]
  obtain ⟨hTk, ⟨hV, hTC, hTM, hTN, hTT, hTo, h97, h93, hAn, hQu, hKn, hfl⟩, hp, hBu, hSl, _⟩ := id c3
  have s9 := hSl.2.2.2.2.2.2.2.2.1
  have s8 := hSl.2.2.2.2.2.2.2.1
  have hC := hSl.2.2.2.2.2.2.2.2.2.1
  rw [s8, s9]
  by_cases c0 : a1 < 0
  · rw [if_pos c0, if_pos c0, if_neg n10]
    exact bad
  rw [if_neg c0, if_neg c0]
  by_cases cS : a1 < sI C
  rotate_left
  · rw [if_neg cS, if_neg cS, if_neg n10]
    exact bad
  rw [if_pos cS, if_pos cS, if_pos (show (0 : Int32) = 0 from rfl)]
  obtain ⟨c, hc, rfl⟩ := nat_lt' c0 cS (by omega)
  rw [n2, n3]
  by_cases cn : n = 0
  · rw [if_pos (show sI n = 0 by rw [cn]; rfl), if_pos (show sI n = 0 by rw [cn]; rfl)]
    exact bad2
  rw [if_neg (show ¬ sI n = 0 by rw [sI_eql (by omega) (by decide)]; exact cn), if_neg (show ¬ sI n = 0 by rw [sI_eql (by omega) (by decide)]; exact cn), ← h97]
  by_cases c7 : 0 ≤ A 3 17
  · rw [if_pos c7, if_pos c7]
    exact bad2
  rw [if_neg c7, if_neg c7, hTC.1.1, hTN.1]
  have v1 : p.1 0 0 ≤ 100 := hV.1.1
  by_cases c9 : p.1 0 0 < 99
  rotate_left
  · rw [if_neg (show ¬ sI (p.1 0 0) < 99 by rw [sI_ltl (by omega) (by decide)]; exact c9), if_neg (show ¬ sI (p.1 0 0) ≤ 98 by rw [sI_lel (by omega) (by decide)]; omega)]
    exact bad2
  rw [if_pos (show sI (p.1 0 0) < 99 by rw [sI_ltl (by omega) (by decide)]; exact c9), if_pos (show sI (p.1 0 0) ≤ 98 by rw [sI_lel (by omega) (by decide)]; omega), mset_n (show ¬ (732 = 732 ∧ 110 = 0) by omega), n3]
  obtain ⟨B', y1, y2, y3⟩ := m_askL (fu := fu) (a1 := sI c) (M := mset M 732 0 0) (L := Lm) (v := v) n1 (fun j hj => ⟨(n4 j hj).1, by rw [mset_n (by omega)]; exact (n4 j hj).2.2⟩) n 0 fu (mset M 732 0 0) (by omega) (by omega) (fun i hi => by omega) (fun _ _ _ => rfl)
  rw [show fX19_ask_h60 fu (sI c) fu (sI n, 0, mset M 732 0 0, Lm) = _ from y1]
  generalize hM2 : mset (mset (mset (mset B' 732 102 (sI n)) 732 110 0) 732 97 (sI c)) 732 98 0 = M2
  have fM2 : ∀ a y, ¬ (a = 732 ∧ (y = 0 ∨ y = 97 ∨ y = 98 ∨ y = 102 ∨ y = 110)) → a ≠ 933 → M2 a y = M a y := fun a y u1 u2 => by rw [← hM2, mset_n (by omega), mset_n (by omega), mset_n (by omega), mset_n (by omega), y3 a y u2, mset_n (by omega)]
  have g102 : M2 732 102 = sI n := by rw [← hM2, mset_n (by omega), mset_n (by omega), mset_n (by omega), mset_s]
  have g110 : M2 732 110 = sI 0 := by rw [← hM2, mset_n (by omega), mset_n (by omega), mset_s]; rfl
  have g97 : M2 732 97 = sI c := by rw [← hM2, mset_n (by omega), mset_s]
  have g98 : M2 732 98 = sI 0 := by rw [← hM2, mset_s]; rfl
  have g0 : M2 732 0 = 0 := by rw [← hM2, mset_n (by omega), mset_n (by omega), mset_n (by omega), mset_n (by omega), y3 _ _ (by omega), mset_s]
  have g933 : ∀ i, i < n → M2 933 i = sI (v i) ∧ v i < 256 := fun i hi => ⟨by rw [← hM2, mset_n (by omega), mset_n (by omega), mset_n (by omega), mset_n (by omega)]; exact y2 i hi, (n4 i hi).1⟩
  have tM2 : TfM M2 Lm (p.1 0 3) p.1 p.2 o e := TfM_fr hTM (fun a y u1 u2 u3 u4 => fM2 a y (by omega) (by omega)) (fun _ _ _ _ => rfl)
  have tN2 : TfN M2 p.1 p.2 e := TfN_fr hTN (fun a y u => fM2 a y (by omega) (by omega))
  obtain ⟨⟨A3, L3⟩, x1, x2, x3, x4⟩ := c_make9 (fu := fu) (c := c) (a3 := 731) (n3 := 100) (sz := n) (a := true) (L := Lc) (v := v) (by omega) hV hTC (by omega) (by omega) (by omega) (by omega) (fun i hi => (n4 i hi).2.1)
  obtain ⟨⟨M3, L4⟩, z1, z2, z3, z4, z5⟩ := m_say19 (fu := fu) (c := c) (sz := n) (a := true) (M := M2) (L := Lm) (v := v) (by omega) hV tM2 tN2 (by omega) g102 g933 (by omega)
  dsimp only at x2 x3 x4 z2 z3 z4 z5
  subst x2 z2
  rw [show DX9_make fu (sI c) 1 731 100 (sI n) A L3 = some (A3, L3) from x1, mb2_s, show DX19_say fu (sI c) 1 M2 L4 = some (M3, L4) from z1, mb2_s, mset_n (show ¬ (0 = 3 ∧ 3 = 18) by omega), mset_n (show ¬ (0 = 3 ∧ 3 = 17) by omega), x4 0 3 (by omega), n2]
  generalize hA4 : mset (mset (mset A3 3 17 (sI c)) 3 18 0) 0 3 0 = A4
  have fA4 : ∀ a y, ¬ (a = 3 ∧ (y = 17 ∨ y = 18)) → ¬ (a = 0 ∧ y = 3) → A4 a y = A3 a y := fun a y u1 u2 => by rw [← hA4, mset_n (by omega), mset_n (by omega), mset_n (by omega)]
  have k17 : A4 3 17 = sI c := by rw [← hA4, mset_n (by omega), mset_n (by omega), mset_s]
  have k18 : A4 3 18 = sI 0 := by rw [← hA4, mset_n (by omega), mset_s]; rfl
  have k03 : A4 0 3 = sI 0 := by rw [← hA4, mset_s]; rfl
  have fA : ∀ a y, ¬ (a = 3 ∧ (y = 17 ∨ y = 18)) → ¬ (a = 0 ∧ y = 3) → ¬ (154 ≤ a ∧ a ≤ 273) → A4 a y = A a y := fun a y u1 u2 u3 => by rw [fA4 a y u1 u2]; exact x4 a y (by omega)
  have fM : ∀ a y, ¬ (a = 732 ∧ (y = 0 ∨ (88 ≤ y ∧ y ≤ 110))) → ¬ (869 ≤ a ∧ a ≤ 871) → ¬ (a = 927 ∨ a = 928 ∨ a = 933) → M3 a y = M a y := fun a y u1 u2 u3 => by rw [z5 a y (by omega)]; exact fM2 a y (by omega) (by omega)
  have f2 : ∀ a y, ¬ (a = 732 ∧ (y = 0 ∨ y = 88 ∨ y = 97 ∨ y = 98 ∨ y = 102 ∨ y = 110)) → ¬ (869 ≤ a ∧ a ≤ 871) → ¬ (a = 927 ∨ a = 928 ∨ a = 933) → M3 a y = M a y := fun a y u1 u2 u3 => by rw [z5 a y (by omega)]; exact fM2 a y (by omega) (by omega)
  refine ⟨0, sI n, A4, M3, rfl, rfl, by rw [z5 _ _ (by omega), g0]; rfl, ?_, 0, v, by omega, k03, by rw [z5 _ _ (by omega)]; exact g110, fun j hj => by omega⟩
  have hTr' : TrB A4 M3 L4 C Sb (maN c n p.1, maB true p.1 p.2) (maO v p.1 o) e := by
    refine ⟨V_ma hV (by omega) (by omega) (by omega), TfC_w x3 (by dsimp only; rw [maN_00]; omega) (fun a y u1 u2 => fA4 a y (by omega) (by omega)), ?_, z4, ?_, fun m m1 m2 => ?_, ?_, ?_, Or.inl ⟨k18, by rw [z5 _ _ (by omega)]; exact g98⟩, QuR_fr hQu (fun a y u => fA a y (by omega) (by omega) (by omega)) (fun a y u => f2 a y (by omega) (by omega) (by omega)), KnC_f hKn (by omega) (fun a y u1 u2 => fA a y (by omega) (by omega) (by omega)), fun f u1 u2 => ?_⟩
    · dsimp only
      rw [maN_03]
      exact z3
    · exact T_ma hTT
    · dsimp only at m2 ⊢
      rw [maN_00] at m2
      rw [maN_1]
      by_cases e1 : m = p.1 0 0 + 1
      · rw [if_pos e1]; exact hc
      · rw [if_neg e1]; exact hTo m m1 (by omega)
    · rw [k17, z5 _ _ (by omega), g97]
    · rw [fA _ _ (by omega) (by omega) (by omega), f2 _ _ (by omega) (by omega) (by omega)]; exact h93
    · dsimp only at u1 u2 ⊢
      rw [ma_o (by omega) (by omega)] at u1 u2
      unfold maB
      rw [mset_n (by omega), mset_n (by omega)]
      exact hfl f u1 u2
  refine HS_c h (CAR_x (si' := si) c3 hTr' (by dsimp only; rw [maN_03]; exact hp) (BusE_fr hBu (fun a y u1 u2 => fA a y (by omega) (by omega) (by omega)) (fun a y u1 u2 u3 => f2 a y (by omega) (by omega) (by omega))) (RTr_fr hTk.2.2.2.2.2.1 (fun a y u1 u2 => fA a y (by omega) (by omega) (by omega)) (fun a y u1 u2 u3 => f2 a y (by omega) (by omega) (by omega))) (fun i hi => by rw [fA _ _ (by omega) (by omega) (by omega), f2 _ _ (by omega) (by omega) (by omega)]; exact hSl.2.2.2.2.2.1 i hi) (fun a y u1 u2 u3 u4 u5 u6 u7 => fA a y (by omega) (by omega) (by omega)) (fun a y u1 u2 u3 u4 u5 u6 u7 u8 u9 => fM a y (by omega) (by omega) (by omega)) (fun _ _ => rfl) (fun _ _ _ => rfl)) c1 c2 (by rw [fA _ _ (by omega) (by omega) (by omega)]; exact c4) c5 (fun a y u1 u2 => fA a y (by omega) (by omega) (by omega)) (fun a y u => f2 a y (by omega) (by omega) (by omega)) (fun _ _ => rfl) (fun _ _ _ => rfl)
/-! CALLS: text -/
theorem HS_t {A A' M M' : mwM} {Lc Lm : mwL} {Sb : Nat → Nat} (h : HS A M Lc Lm Sb) (hA : ∀ a y, a ≠ 2 → ¬ (a = 1 ∧ y = 4) → A' a y = A a y) (hM : ∀ a y, a ≠ 733 → ¬ (a = 732 ∧ (y = 0 ∨ y = 2)) → M' a y = M a y) (ht : ∃ n tx, TxC A' n tx ∧ TxM M' n tx) : HS A' M' Lc Lm Sb := by
  obtain ⟨⟨k, k1, k2, k3⟩, _, ⟨i1, i2, i3, i4, i5⟩, h5, hc⟩ := h
  refine ⟨⟨k, k1, by rw [hA _ _ (by omega) (by omega)]; exact k2, by rw [hM _ _ (by omega) (by omega)]; exact k3⟩, ht, ⟨RCd_fr i1 (fun a y u1 u2 => hA a y (by omega) (by omega)) (fun a y u => hM a y (by omega) (by omega)), OcA_f i2 (fun a y u1 u2 => hA a y (by omega) (by omega)), by rw [hM _ _ (by omega) (by omega)]; exact i3, PrB_f i4 (fun a u1 u2 => hM a 0 (by omega) (by omega)) (fun _ _ _ _ _ => rfl) (fun _ _ _ _ _ => rfl), fun a ha y hy => by rw [hM _ _ (by omega) (by omega)]; exact i5 a ha y hy⟩, by rw [hA _ _ (by omega) (by omega), hM _ _ (by omega) (by omega)]; exact h5, ?_⟩
  rcases hc with ⟨c1, c2⟩ | ⟨c1, c2, C, S, F, W, R, X, T, t, E, d, tu, g, own, bd, si, p, o, e, ec, tc, fl, c3, c4, c5⟩
  · exact Or.inl ⟨by rw [hA _ _ (by omega) (by omega)]; exact c1, by rw [hM _ _ (by omega) (by omega)]; exact c2⟩
  · exact Or.inr ⟨by rw [hA _ _ (by omega) (by omega)]; exact c1, by rw [hM _ _ (by omega) (by omega)]; exact c2, C, S, F, W, R, X, T, t, E, d, tu, g, own, bd, si, p, o, e, ec, tc, fl, CAR_e c3 (fun a y u1 u2 => hA a y (by omega) (by omega)) (fun a y u1 u2 u3 u4 u5 u6 u7 u8 => hM a y (by omega) (by omega)) (fun _ _ => rfl) (fun _ _ _ => rfl), by rw [hA _ _ (by omega) (by omega)]; exact c4, c5⟩
theorem st_ltext {fu : Nat} {a b c d : Int32} {A M : mwM} {Lc Lm : mwL} {Sb : Nat → Nat} (hfu : 17 ≤ fu) (h : HS A M Lc Lm Sb) : ∃ k A' M', DL_text fu a b c d A Lc = some (k, A', Lc) ∧ DX19_text fu a b c d M Lm = some (M', Lm) ∧ M' 732 0 = k ∧ HS A' M' Lc Lm Sb := by
  obtain ⟨n, tx, t1, t2⟩ := h.2.1
  by_cases hc : n + nz (l16 a b c d) ≤ 6000
  rotate_left
  · exact ⟨1, A, mset M 732 0 1, by rw [ct_text (by omega) t1.1 t1.2.1, if_neg hc], by rw [mt_text hfu t2.1 t2.2.1, if_neg hc], mset_s, HS_0 h⟩
  obtain ⟨p1, p2, p3, p4⟩ := pu_all (r := 2) (c := 1) (f := 4) (by decide) (l16 a b c d) A n t1.1 (by omega)
  have hm2 : mset M 732 0 0 732 2 = sI n := by rw [mset_n (by omega)]; exact t2.1
  obtain ⟨q1, q2, q3, q4⟩ := pu_all (r := 733) (c := 732) (f := 2) (by decide) (l16 a b c d) (mset M 732 0 0) n hm2 (by omega)
  refine ⟨0, pu 2 1 4 A (l16 a b c d), pu 733 732 2 (mset M 732 0 0) (l16 a b c d), by rw [ct_text (by omega) t1.1 t1.2.1, if_pos hc], by rw [mt_text hfu t2.1 t2.2.1, if_pos hc], by rw [q2 _ _ (by decide) (by decide), mset_s], ?_⟩
  have key : ∀ j, j < n + nz (l16 a b c d) → ∃ x, 0 < x ∧ x < 256 ∧ pu 2 1 4 A (l16 a b c d) 2 j = sI x ∧ pu 733 732 2 (mset M 732 0 0) (l16 a b c d) 733 j = sI x := fun j hj => by
    by_cases hjn : j < n
    · obtain ⟨y1, y2, y3⟩ := t1.2.2 j hjn
      obtain ⟨z1, _, _⟩ := t2.2.2 j hjn
      exact ⟨tx j, y2, y3, by rw [p3 j hjn]; exact y1, by rw [q3 j hjn, mset_n (by omega)]; exact z1⟩
    · have ej : j = n + (j - n) := by omega
      have hi : j - n < nz (l16 a b c d) := by omega
      have hmem := List.getElem_mem (l := (l16 a b c d).filter (fun x => x ≠ 0)) (n := j - n) hi
      rw [List.mem_filter] at hmem
      obtain ⟨x, hx, ex⟩ := l16_n hmem.1
      refine ⟨x, ?_, hx, by rw [ej, p4 (j - n) hi]; exact ex, by rw [ej, q4 (j - n) hi]; exact ex⟩
      have hne := hmem.2
      rw [ex] at hne
      rcases Nat.eq_zero_or_pos x with rfl | hp
      · exact absurd hne (by decide)
      · exact hp
  refine HS_t h (fun x y u1 u2 => p2 x y u1 u2) (fun x y u1 u2 => by rw [q2 x y u1 (by omega), mset_n (by omega)]) ⟨n + nz (l16 a b c d), fun j => (pu 2 1 4 A (l16 a b c d) 2 j).toNatClampNeg, ⟨p1, hc, fun j hj => ?_⟩, ⟨q1, hc, fun j hj => ?_⟩⟩
  · obtain ⟨x, x1, x2, x3, x4⟩ := key j hj
    dsimp only
    rw [x3, sI_nn (by omega)]
    exact ⟨rfl, x1, x2⟩
  · obtain ⟨x, x1, x2, x3, x4⟩ := key j hj
    dsimp only
    rw [x3, x4, sI_nn (by omega)]
    exact ⟨rfl, x1, x2⟩
