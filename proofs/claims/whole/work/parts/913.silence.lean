/-! CALLS: silence -/
theorem c_silL {fu C : Nat} {a1 a2 : Int32} {A : mwM} {L : mwL} {si : Nat → Bool} (hC : C ≤ 6) (h13 : A 3 13 = sI C) (hs : ∀ c, c < 6 → A 284 c = bI (si c)) : ∀ (m c f : Nat), c + m = C → m < f → fX11_silence_h47 fu a1 a2 f (sI (cnt si c), sI c, A, L) = some ((0, sI (cnt si C)), A, L) := by
  intro m
  induction m with
  | zero =>
    intro c f hc hf
    obtain ⟨f, rfl⟩ : ∃ y, f = y + 1 := ⟨f - 1, by omega⟩
    show fX11_silence_i47 fu a1 a2 (fX11_silence_h47 fu a1 a2 f) (sI (cnt si c)) (sI c) A L = _
    unfold fX11_silence_i47
    rw [h13, if_pos (show sI C ≤ sI c by rw [sI_le (by omega) (by omega)]; omega), show c = C by omega]
  | succ m ih =>
    intro c f hc hf
    obtain ⟨f, rfl⟩ : ∃ y, f = y + 1 := ⟨f - 1, by omega⟩
    show fX11_silence_i47 fu a1 a2 (fX11_silence_h47 fu a1 a2 f) (sI (cnt si c)) (sI c) A L = _
    unfold fX11_silence_i47 fX11_silence_b78
    have nx := ih (c + 1) f (by omega) (by omega)
    rw [cnt_sc] at nx
    rw [h13, if_neg (show ¬ sI C ≤ sI c by rw [sI_le (by omega) (by omega)]; omega), mck_s (by omega) (by omega), sI_nn (by omega), hs c (by omega), mlet_e, mlet_e, mlet_e, mlet_e, sI_1]
    cases q : si c with
    | false =>
      rw [q, if_neg (by decide), Nat.add_zero] at nx
      rw [if_pos (show bI false = 0 from rfl), show (sI (cnt si c) + 0 : Int32) = sI (cnt si c) from sI_add (b := 0)]
      exact nx
    | true =>
      rw [q, if_pos rfl] at nx
      rw [if_neg (show ¬ bI true = 0 by decide), sI_1]
      exact nx
theorem m_silL {fu : Nat} {a1 a2 : Int32} {M : mwM} {L : mwL} {si : Nat → Bool} (hs : ∀ c, c < 6 → M 923 c = bI (si c)) : ∀ (m c f : Nat), c + m = 6 → m < f → fX19_silence_h38 fu a1 a2 f (sI (cnt si c), sI c, M, L) = some (sI (cnt si 6), M, L) := by
  intro m
  induction m with
  | zero =>
    intro c f hc hf
    obtain ⟨f, rfl⟩ : ∃ y, f = y + 1 := ⟨f - 1, by omega⟩
    show fX19_silence_i38 fu a1 a2 (fX19_silence_h38 fu a1 a2 f) (sI (cnt si c)) (sI c) M L = _
    unfold fX19_silence_i38
    rw [if_pos (show (6 : Int32) ≤ sI c by rw [show c = 6 by omega]; decide), show c = 6 by omega]
  | succ m ih =>
    intro c f hc hf
    obtain ⟨f, rfl⟩ : ∃ y, f = y + 1 := ⟨f - 1, by omega⟩
    show fX19_silence_i38 fu a1 a2 (fX19_silence_h38 fu a1 a2 f) (sI (cnt si c)) (sI c) M L = _
    unfold fX19_silence_i38 fX19_silence_b62
    have nx := ih (c + 1) f (by omega) (by omega)
    rw [cnt_sc] at nx
    rw [if_neg (show ¬ (6 : Int32) ≤ sI c by rw [show (6 : Int32) = sI 6 from rfl, sI_le (by omega) (by omega)]; omega), mck_s (by omega) (by omega), sI_nn (by omega), hs c (by omega), mlet_e, mlet_e, sI_1, sI_1]
    cases q : si c with
    | false =>
      rw [q, if_neg (by decide), Nat.add_zero] at nx
      rw [if_pos (show bI false = 0 from rfl)]
      exact nx
    | true =>
      rw [q, if_pos rfl] at nx
      rw [if_neg (show ¬ bI true = 0 by decide)]
      exact nx
theorem cnt_tail {si : Nat → Bool} {C : Nat} (h : ∀ c, C ≤ c → c < 6 → si c = false) : ∀ m, C + m ≤ 6 → cnt si (C + m) = cnt si C := by
  intro m
  induction m with
  | zero => intro _; rfl
  | succ m ih =>
    intro hm
    rw [show C + (m + 1) = C + m + 1 from rfl, cnt_sc, h (C + m) (by omega) (by omega), if_neg (by decide), ih (by omega)]
    rfl
theorem m_noCon {fu : Nat} {a1 : Int32} {M : mwM} {L : mwL} : DX19_noController fu a1 M L = some ((if M 732 4 = 0 then 1 else if a1 < 0 then 1 else if a1 < M 732 19 then 0 else 1), M, L) := by
  unfold DX19_noController fX19_noController_b19 fX19_noController_b24
  rw [mzz_1, mzz_0]
  by_cases q1 : M 732 4 = 0
  · rw [if_pos q1, if_pos q1]
  rw [if_neg q1, if_neg q1]
  by_cases q2 : a1 < 0
  · rw [if_pos q2, if_pos q2]
  rw [if_neg q2, if_neg q2]
  by_cases q3 : a1 < M 732 19
  · rw [if_pos q3, if_pos q3]
  · rw [if_neg q3, if_neg q3]
theorem st_lsilence {fu : Nat} {a1 : Int32} {v : Bool} {A M : mwM} {Lc Lm : mwL} {Sb : Nat → Nat} (hfu : 10 ≤ fu) (h : HS A M Lc Lm Sb) : CaQ mp32 Sb (DX11_silence fu a1 (bI v) A Lc) (DX19_silence fu a1 (bI v) M Lm) := by
  unfold DX11_silence DX19_silence fX11_silence_b22 fX19_silence_b14
  rw [m_noCon, mb3_s]
  simp only [mlet_e, mset_s]
  rw [if_neg (show ¬ (1 : Int32) ≤ 0 by decide), if_pos (show (0 : Int32) ≤ 0 by decide)]
  have bad : CaQ mp32 Sb (some ((3, 0), A, Lc)) (some (0, mset M 732 0 1, Lm)) := ⟨3, 0, A, _, Lc, Lm, rfl, rfl, mset_s, HS_0 h⟩
  have n10 : ¬ (1 : Int32) = 0 := by decide
  rcases h.2.2.2.2 with ⟨c1, c2⟩ | ⟨c1, c2, C, S, F, W, R, X, T, t, E, d, tu, g, own, bd, si, p, o, e, ec, tc, fl, c3, c4, c5⟩
  · rw [if_pos c1, if_pos c2, if_neg n10]
    exact bad
  rw [if_neg (show ¬ A 0 5 = 0 by rw [c1]; decide), if_neg (show ¬ M 732 4 = 0 by rw [c2]; decide)]
  have c3' := CAR_f (M' := mset M 732 0 0) c3 (fun _ _ _ => rfl) (fun a y u => mset_n (by omega))
  obtain ⟨hTk, hTr, hp, hBu, hSl, _⟩ := id c3'
  have s9 := hSl.2.2.2.2.2.2.2.2.1
  have s8 := hSl.2.2.2.2.2.2.2.1
  rw [mset_n (by omega)] at s8
  have hC := hSl.2.2.2.2.2.2.2.2.2.1
  have hsi := hSl.2.2.2.2.2.1
  rw [s8, s9]
  by_cases c0 : a1 < 0
  · rw [if_pos c0, if_pos c0, if_neg n10]
    exact bad
  rw [if_neg c0, if_neg c0]
  by_cases cS : a1 < sI C
  rotate_left
  · rw [if_neg cS, if_neg cS, if_neg n10]
    exact bad
  rw [if_pos cS, if_pos cS, if_pos (show (0 : Int32) = 0 from rfl)]
  obtain ⟨c, hc, rfl⟩ := nat_lt' c0 cS (by omega)
  rw [mck_s (show c < 6 by omega) (by omega), mck_s (show c < 6 by omega) (by omega), sI_nn (by omega), bI_n]
  have hs1 : ∀ i, i < 6 → mset A 284 c (bI v) 284 i = bI ((fun i => if i = c then v else si i) i) := fun i hi => by
    dsimp only
    by_cases q : i = c
    · subst q
      rw [mset_s, if_pos rfl]
    · rw [mset_n (by omega), if_neg q]
      exact (hsi i hi).1
  have hs2 : ∀ i, i < 6 → mset (mset M 732 0 0) 923 c (bI v) 923 i = bI ((fun i => if i = c then v else si i) i) := fun i hi => by
    dsimp only
    by_cases q : i = c
    · subst q
      rw [mset_s, if_pos rfl]
    · rw [mset_n (by omega), if_neg q]
      exact (hsi i hi).2
  have c5' : ∀ i, C ≤ i → i < 6 → (fun i => if i = c then v else si i) i = false := fun i h1 h2 => by
    dsimp only
    rw [if_neg (by omega)]
    exact c5 i h1 h2
  have e1 := c_silL (fu := fu) (a1 := sI c) (a2 := bI v) (L := Lc) hC (by rw [mset_n (by omega)]; exact s9) hs1 C 0 fu (by omega) (by omega)
  have e2 := m_silL (fu := fu) (a1 := sI c) (a2 := bI v) (L := Lm) hs2 6 0 fu (by omega) (by omega)
  rw [show fX11_silence_h47 fu (sI c) (bI v) fu (0, 0, mset A 284 c (bI v), Lc) = _ from e1, show fX19_silence_h38 fu (sI c) (bI v) fu (0, 0, mset (mset M 732 0 0) 923 c (bI v), Lm) = _ from e2]
  have e3 := cnt_tail (C := C) c5' (6 - C) (by omega)
  rw [show C + (6 - C) = 6 by omega] at e3
  rw [e3]
  refine ⟨0, _, _, _, Lc, Lm, rfl, rfl, by rw [mset_n (by omega), mset_s]; rfl, ?_⟩
  refine HS_c h (CAR_x (si' := fun i => if i = c then v else si i) c3 (TrB_f hTr (fun a y u => mset_n (by omega)) (fun a y u => mset_n (by omega)) (fun _ _ _ _ => rfl)) hp (BusE_fr hBu (fun a y u1 u2 => mset_n (by omega)) (fun a y u1 u2 u3 => mset_n (by omega))) (RTr_fr hTk.2.2.2.2.2.1 (fun a y u1 u2 => mset_n (by omega)) (fun a y u1 u2 u3 => mset_n (by omega))) (fun i hi => ⟨hs1 i hi, hs2 i hi⟩) (fun a y u1 u2 u3 u4 u5 u6 u7 => mset_n (by omega)) (fun a y u1 u2 u3 u4 u5 u6 u7 u8 u9 => by rw [mset_n (by omega), mset_n (by omega)]) (fun _ _ => rfl) (fun _ _ _ => rfl)) c1 c2 (by rw [mset_n (by omega)]; exact c4) c5' (fun a y u1 u2 => mset_n (by omega)) (fun a y u => by rw [mset_n (by omega), mset_n (by omega)]) (fun _ _ => rfl) (fun _ _ _ => rfl)
