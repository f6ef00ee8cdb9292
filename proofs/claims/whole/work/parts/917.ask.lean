/-! CALLS: say, ask -/
/-- what has been said and not yet asked -/
def SyR (A M : mwM) : Prop := ∃ (n : Nat) (v : Nat → Nat), n ≤ 100 ∧ A 0 3 = sI n ∧ M 732 110 = sI n ∧ ∀ j, j < n → v j < 256 ∧ A 731 j = sI (v j) ∧ M 940 j = sI (v j)
theorem st_lsay {fu : Nat} {a1 : Int32} {A M : mwM} {Lc Lm : mwL} {Sb : Nat → Nat} (hs : SyR A M) (h : HS A M Lc Lm Sb) : ∃ r A' M', DX11_say fu a1 A Lc = some (r, A', Lc) ∧ DX19_say_ fu a1 M Lm = some (r, M', Lm) ∧ HS A' M' Lc Lm Sb ∧ SyR A' M' := by
  obtain ⟨n, v, n1, n2, n3, n4⟩ := hs
  unfold DX11_say DX19_say_ fX11_say_b33 fX19_say__b38
  simp only [mlet_e]
  rw [mset_n (show ¬ (732 = 732 ∧ 110 = 0) by omega), n2, n3]
  by_cases c : n = 100
  · rw [if_pos (show (100 : Int32) ≤ sI n by rw [c]; decide), if_pos (show (100 : Int32) ≤ sI n by rw [c]; decide)]
    exact ⟨sI n, A, _, rfl, rfl, HS_0 h, n, v, n1, n2, by rw [mset_n (by omega)]; exact n3, fun j hj => by rw [mset_n (by omega)]; exact n4 j hj⟩
  have nc : ¬ (100 : Int32) ≤ sI n := by rw [show (100 : Int32) = sI 100 from rfl, sI_le (by omega) (by omega)]; omega
  obtain ⟨w, hw, ew⟩ := and_255n a1
  rw [if_neg nc, if_neg nc, mck_s (show n < 100 by omega) (by omega), mck_s (show n < 100 by omega) (by omega), sI_nn (by omega), ew, mset_n (show ¬ (0 = 731 ∧ 3 = n) by omega), n2, mset_n (show ¬ (732 = 940 ∧ 110 = n) by omega), mset_n (show ¬ (732 = 732 ∧ 110 = 0) by omega), n3, sI_1, mset_s, mset_s]
  refine ⟨sI (n + 1), _, _, rfl, rfl, HS_e h (fun a y u1 u2 => by rw [mset_n (by omega), mset_n (by omega)]) (fun a y u1 u2 u3 u4 u5 u6 u7 u8 => by rw [mset_n (by omega), mset_n (by omega), mset_n (by omega)]) (fun _ _ => rfl) (fun _ _ _ => rfl), n + 1, fun j => if j = n then w else v j, by omega, mset_s, mset_s, fun j hj => ?_⟩
  dsimp only
  by_cases e : j = n
  · subst e
    rw [if_pos rfl, mset_n (by omega), mset_s, mset_n (by omega), mset_s]
    exact ⟨hw, rfl, rfl⟩
  · rw [if_neg e, mset_n (by omega), mset_n (by omega), mset_n (by omega), mset_n (by omega), mset_n (by omega)]
    exact n4 j (by omega)
abbrev mp31 (w : Nat) : Nat := if w = 3 then 1 else if w = 1 then 2 else w
theorem m_askL {fu n : Nat} {a1 : Int32} {M : mwM} {L : mwL} {v : Nat → Nat} (hn : n ≤ 100) (h940 : ∀ j, j < n → v j < 256 ∧ M 940 j = sI (v j)) : ∀ (m j f : Nat) (B : mwM), j + m = n → m < f → (∀ i, i < j → B 933 i = sI (v i)) → (∀ a y, a ≠ 933 → B a y = M a y) → ∃ B', fX19_ask_h60 fu a1 f (sI n, sI j, B, L) = mb2 (DX19_say fu a1 1 (mset (mset (mset (mset B' 732 102 (sI n)) 732 110 0) 732 97 a1) 732 98 0) L) (fun M9 L10 => some (sI n, M9, L10)) ∧ (∀ i, i < n → B' 933 i = sI (v i)) ∧ ∀ a y, a ≠ 933 → B' a y = M a y := by
  intro m
  induction m with
  | zero =>
    intro j f B hj hf h1 h2
    obtain ⟨f, rfl⟩ : ∃ y, f = y + 1 := ⟨f - 1, by omega⟩
    refine ⟨B, ?_, fun i hi => h1 i (by omega), h2⟩
    show fX19_ask_i60 fu a1 (fX19_ask_h60 fu a1 f) (sI n) (sI j) B L = _
    unfold fX19_ask_i60
    rw [if_pos (show sI n ≤ sI j by rw [sI_le (by omega) (by omega)]; omega)]
    rfl
  | succ m ih =>
    intro j f B hj hf h1 h2
    obtain ⟨f, rfl⟩ : ∃ y, f = y + 1 := ⟨f - 1, by omega⟩
    obtain ⟨B', x1, x2, x3⟩ := ih (j + 1) f (mset B 933 j (sI (v j))) (by omega) (by omega) (fun i hi => by
      by_cases e : i = j
      · rw [e, mset_s]
      · rw [mset_n (by omega)]; exact h1 i (by omega)) (fun a y u => by rw [mset_n (by omega)]; exact h2 a y u)
    refine ⟨B', ?_, x2, x3⟩
    rw [← x1]
    show fX19_ask_i60 fu a1 (fX19_ask_h60 fu a1 f) (sI n) (sI j) B L = _
    unfold fX19_ask_i60
    rw [if_neg (show ¬ sI n ≤ sI j by rw [sI_le (by omega) (by omega)]; omega), mck_s (by omega) (by omega), mck_s (by omega) (by omega), mlet_e, mlet_e, sI_nn (by omega), h2 940 j (by omega), (h940 j (by omega)).2, sI_1]
theorem st_lask {fu : Nat} {a1 : Int32} {A M : mwM} {Lc Lm : mwL} {Sb : Nat → Nat} (hfu : 200 ≤ fu) (hs : SyR A M) (h : HS A M Lc Lm Sb) : ∃ (w : Nat) (r : Int32) (A' M' : mwM), DX11_ask fu a1 A Lc = some ((w, r), A', Lc) ∧ DX19_ask fu a1 M Lm = some (r, M', Lm) ∧ M' 732 0 = sI (mp31 w) ∧ HS A' M' Lc Lm Sb ∧ SyR A' M' := by
  obtain ⟨n, v, n1, n2, n3, n4⟩ := id hs
  have hs0 : ∀ k : Int32, SyR A (mset M 732 0 k) := fun k => ⟨n, v, n1, n2, by rw [mset_n (by omega)]; exact n3, fun j hj => by rw [mset_n (by omega)]; exact n4 j hj⟩
  unfold DX11_ask DX19_ask fX11_ask_b22 fX11_ask_b64 fX19_ask_b36 fX19_ask_b41
  rw [m_noCon, mb3_s]
  simp only [mlet_e, mset_s]
  rw [if_neg (show ¬ (1 : Int32) ≤ 0 by decide), if_neg (show ¬ (2 : Int32) ≤ 0 by decide), if_pos (show (0 : Int32) ≤ 0 by decide)]
  have bad : ∃ (w : Nat) (r : Int32) (A' M' : mwM), some (((3 : Nat), (0 : Int32)), A, Lc) = some ((w, r), A', Lc) ∧ some ((0 : Int32), mset M 732 0 1, Lm) = some (r, M', Lm) ∧ M' 732 0 = sI (mp31 w) ∧ HS A' M' Lc Lm Sb ∧ SyR A' M' := ⟨3, 0, A, _, rfl, rfl, mset_s, HS_0 h, hs0 _⟩
  have bad2 : ∃ (w : Nat) (r : Int32) (A' M' : mwM), some (((1 : Nat), (0 : Int32)), A, Lc) = some ((w, r), A', Lc) ∧ some ((0 : Int32), mset M 732 0 2, Lm) = some (r, M', Lm) ∧ M' 732 0 = sI (mp31 w) ∧ HS A' M' Lc Lm Sb ∧ SyR A' M' := ⟨1, 0, A, _, rfl, rfl, mset_s, HS_0 h, hs0 _⟩
  have n10 : ¬ (1 : Int32) = 0 := by decide
  rcases h.2.2.2.2 with ⟨c1, c2⟩ | ⟨c1, c2, C, S, F, W, R, X, T, t, E, d, tu, g, own, bd, si, p, o, e, ec, tc, fl, c3, c4, c5⟩
  · rw [if_pos c1, if_pos c2, if_neg n10]
    exact bad
  rw [if_neg (show ¬ A 0 5 = 0 by rw [c1]; decide), if_neg (show ¬ M 732 4 = 0 by rw [c2]; decide)]
  obtain ⟨hTk, ⟨hV, hTC, hTM, hTN, hTT, hTo, h97, h93, hAn, hQu, hKn, hfl⟩, hp, hBu, hSl, _⟩ := id c3
  have s9 := hSl.2.2.2.2.2.2.2.2.1
  have s8 := hSl.2.2.2.2.2.2.2.1
  have hC := hSl.2.2.2.2.2.2.2.2.2.1
  rw [s8, s9]
  by_cases c0 : a1 < 0
  · rw [if_pos c0, if_pos c0, if_neg n10]
    exact bad
  rw [if_neg c0, if_neg c0]
  by_cases cS : a1 < sI C
  rotate_left
  · rw [if_neg cS, if_neg cS, if_neg n10]
    exact bad
  rw [if_pos cS, if_pos cS, if_pos (show (0 : Int32) = 0 from rfl)]
  obtain ⟨c, hc, rfl⟩ := nat_lt' c0 cS (by omega)
  rw [n2, n3]
  by_cases cn : n = 0
  · rw [if_pos (show sI n = 0 by rw [cn]; rfl), if_pos (show sI n = 0 by rw [cn]; rfl)]
    exact bad2
  rw [if_neg (show ¬ sI n = 0 by rw [sI_eql (by omega) (by decide)]; exact cn), if_neg (show ¬ sI n = 0 by rw [sI_eql (by omega) (by decide)]; exact cn), ← h97]
  by_cases c7 : 0 ≤ A 3 17
  · rw [if_pos c7, if_pos c7]
    exact bad2
  rw [if_neg c7, if_neg c7, hTC.1.1, hTN.1]
  have v1 : p.1 0 0 ≤ 100 := hV.1.1
  by_cases c9 : p.1 0 0 < 99
  rotate_left
  · rw [if_neg (show ¬ sI (p.1 0 0) < 99 by rw [sI_ltl (by omega) (by decide)]; exact c9), if_neg (show ¬ sI (p.1 0 0) ≤ 98 by rw [sI_lel (by omega) (by decide)]; omega)]
    exact bad2
  rw [if_pos (show sI (p.1 0 0) < 99 by rw [sI_ltl (by omega) (by decide)]; exact c9), if_pos (show sI (p.1 0 0) ≤ 98 by rw [sI_lel (by omega) (by decide)]; omega), mset_n (show ¬ (732 = 732 ∧ 110 = 0) by omega), n3]
  obtain ⟨B', y1, y2, y3⟩ := m_askL (fu := fu) (a1 := sI c) (M := mset M 732 0 0) (L := Lm) (v := v) n1 (fun j hj => ⟨(n4 j hj).1, by rw [mset_n (by omega)]; exact (n4 j hj).2.2⟩) n 0 fu (mset M 732 0 0) (by omega) (by omega) (fun i hi => by omega) (fun _ _ _ => rfl)
  rw [show fX19_ask_h60 fu (sI c) fu (sI n, 0, mset M 732 0 0, Lm) = _ from y1]
  generalize hM2 : mset (mset (mset (mset B' 732 102 (sI n)) 732 110 0) 732 97 (sI c)) 732 98 0 = M2
  have fM2 : ∀ a y, ¬ (a = 732 ∧ (y = 0 ∨ y = 97 ∨ y = 98 ∨ y = 102 ∨ y = 110)) → a ≠ 933 → M2 a y = M a y := fun a y u1 u2 => by rw [← hM2, mset_n (by omega), mset_n (by omega), mset_n (by omega), mset_n (by omega), y3 a y u2, mset_n (by omega)]
  have g102 : M2 732 102 = sI n := by rw [← hM2, mset_n (by omega), mset_n (by omega), mset_n (by omega), mset_s]
  have g110 : M2 732 110 = sI 0 := by rw [← hM2, mset_n (by omega), mset_n (by omega), mset_s]; rfl
  have g97 : M2 732 97 = sI c := by rw [← hM2, mset_n (by omega), mset_s]
  have g98 : M2 732 98 = sI 0 := by rw [← hM2, mset_s]; rfl
  have g0 : M2 732 0 = 0 := by rw [← hM2, mset_n (by omega), mset_n (by omega), mset_n (by omega), mset_n (by omega), y3 _ _ (by omega), mset_s]
  have g933 : ∀ i, i < n → M2 933 i = sI (v i) ∧ v i < 256 := fun i hi => ⟨by rw [← hM2, mset_n (by omega), mset_n (by omega), mset_n (by omega), mset_n (by omega)]; exact y2 i hi, (n4 i hi).1⟩
  have tM2 : TfM M2 Lm (p.1 0 3) p.1 p.2 o e := TfM_fr hTM (fun a y u1 u2 u3 u4 => fM2 a y (by omega) (by omega)) (fun _ _ _ _ => rfl)
  have tN2 : TfN M2 p.1 p.2 e := TfN_fr hTN (fun a y u => fM2 a y (by omega) (by omega))
  obtain ⟨⟨A3, L3⟩, x1, x2, x3, x4⟩ := c_make9 (fu := fu) (c := c) (a3 := 731) (n3 := 100) (sz := n) (a := true) (L := Lc) (v := v) (by omega) hV hTC (by omega) (by omega) (by omega) (by omega) (fun i hi => (n4 i hi).2.1)
  obtain ⟨⟨M3, L4⟩, z1, z2, z3, z4, z5⟩ := m_say19 (fu := fu) (c := c) (sz := n) (a := true) (M := M2) (L := Lm) (v := v) (by omega) hV tM2 tN2 (by omega) g102 g933 (by omega)
  dsimp only at x2 x3 x4 z2 z3 z4 z5
  subst x2 z2
  rw [show DX9_make fu (sI c) 1 731 100 (sI n) A L3 = some (A3, L3) from x1, mb2_s, show DX19_say fu (sI c) 1 M2 L4 = some (M3, L4) from z1, mb2_s, mset_n (show ¬ (0 = 3 ∧ 3 = 18) by omega), mset_n (show ¬ (0 = 3 ∧ 3 = 17) by omega), x4 0 3 (by omega), n2]
  generalize hA4 : mset (mset (mset A3 3 17 (sI c)) 3 18 0) 0 3 0 = A4
  have fA4 : ∀ a y, ¬ (a = 3 ∧ (y = 17 ∨ y = 18)) → ¬ (a = 0 ∧ y = 3) → A4 a y = A3 a y := fun a y u1 u2 => by rw [← hA4, mset_n (by omega), mset_n (by omega), mset_n (by omega)]
  have k17 : A4 3 17 = sI c := by rw [← hA4, mset_n (by omega), mset_n (by omega), mset_s]
  have k18 : A4 3 18 = sI 0 := by rw [← hA4, mset_n (by omega), mset_s]; rfl
  have k03 : A4 0 3 = sI 0 := by rw [← hA4, mset_s]; rfl
  have fA : ∀ a y, ¬ (a = 3 ∧ (y = 17 ∨ y = 18)) → ¬ (a = 0 ∧ y = 3) → ¬ (154 ≤ a ∧ a ≤ 273) → A4 a y = A a y := fun a y u1 u2 u3 => by rw [fA4 a y u1 u2]; exact x4 a y (by omega)
  have fM : ∀ a y, ¬ (a = 732 ∧ (y = 0 ∨ (88 ≤ y ∧ y ≤ 110))) → ¬ (869 ≤ a ∧ a ≤ 871) → ¬ (a = 927 ∨ a = 928 ∨ a = 933) → M3 a y = M a y := fun a y u1 u2 u3 => by rw [z5 a y (by omega)]; exact fM2 a y (by omega) (by omega)
  have f2 : ∀ a y, ¬ (a = 732 ∧ (y = 0 ∨ y = 88 ∨ y = 97 ∨ y = 98 ∨ y = 102 ∨ y = 110)) → ¬ (869 ≤ a ∧ a ≤ 871) → ¬ (a = 927 ∨ a = 928 ∨ a = 933) → M3 a y = M a y := fun a y u1 u2 u3 => by rw [z5 a y (by omega)]; exact fM2 a y (by omega) (by omega)
  refine ⟨0, sI n, A4, M3, rfl, rfl, by rw [z5 _ _ (by omega), g0]; rfl, ?_, 0, v, by omega, k03, by rw [z5 _ _ (by omega)]; exact g110, fun j hj => by omega⟩
  have hTr' : TrB A4 M3 L4 C Sb (maN c n p.1, maB true p.1 p.2) (maO v p.1 o) e := by
    refine ⟨V_ma hV (by omega) (by omega) (by omega), TfC_w x3 (by dsimp only; rw [maN_00]; omega) (fun a y u1 u2 => fA4 a y (by omega) (by omega)), ?_, z4, ?_, fun m m1 m2 => ?_, ?_, ?_, Or.inl ⟨k18, by rw [z5 _ _ (by omega)]; exact g98⟩, QuR_fr hQu (fun a y u => fA a y (by omega) (by omega) (by omega)) (fun a y u => f2 a y (by omega) (by omega) (by omega)), KnC_f hKn (by omega) (fun a y u1 u2 => fA a y (by omega) (by omega) (by omega)), fun f u1 u2 => ?_⟩
    · dsimp only
      rw [maN_03]
      exact z3
    · exact T_ma hTT
    · dsimp only at m2 ⊢
      rw [maN_00] at m2
      rw [maN_1]
      by_cases e1 : m = p.1 0 0 + 1
      · rw [if_pos e1]; exact hc
      · rw [if_neg e1]; exact hTo m m1 (by omega)
    · rw [k17, z5 _ _ (by omega), g97]
    · rw [fA _ _ (by omega) (by omega) (by omega), f2 _ _ (by omega) (by omega) (by omega)]; exact h93
    · dsimp only at u1 u2 ⊢
      rw [ma_o (by omega) (by omega)] at u1 u2
      unfold maB
      rw [mset_n (by omega), mset_n (by omega)]
      exact hfl f u1 u2
  refine HS_c h (CAR_x (si' := si) c3 hTr' (by dsimp only; rw [maN_03]; exact hp) (BusE_fr hBu (fun a y u1 u2 => fA a y (by omega) (by omega) (by omega)) (fun a y u1 u2 u3 => f2 a y (by omega) (by omega) (by omega))) (RTr_fr hTk.2.2.2.2.2.1 (fun a y u1 u2 => fA a y (by omega) (by omega) (by omega)) (fun a y u1 u2 u3 => f2 a y (by omega) (by omega) (by omega))) (fun i hi => by rw [fA _ _ (by omega) (by omega) (by omega), f2 _ _ (by omega) (by omega) (by omega)]; exact hSl.2.2.2.2.2.1 i hi) (fun a y u1 u2 u3 u4 u5 u6 u7 => fA a y (by omega) (by omega) (by omega)) (fun a y u1 u2 u3 u4 u5 u6 u7 u8 u9 => fM a y (by omega) (by omega) (by omega)) (fun _ _ => rfl) (fun _ _ _ => rfl)) c1 c2 (by rw [fA _ _ (by omega) (by omega) (by omega)]; exact c4) c5 (fun a y u1 u2 => fA a y (by omega) (by omega) (by omega)) (fun a y u => f2 a y (by omega) (by omega) (by omega)) (fun _ _ => rfl) (fun _ _ _ => rfl)
