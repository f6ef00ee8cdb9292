/-! CALLS: error -/
theorem st_lerror {fu : Nat} {a1 a2 : Int32} {A M : mwM} {Lc Lm : mwL} {Sb : Nat → Nat} (h : HS A M Lc Lm Sb) : CaQ mp32 Sb (DX11_error fu a1 a2 A Lc) (DX19_error fu a1 a2 M Lm) := by
  have eC : ¬ (a1 = -1 ∧ a2 = 0) → DX11_error fu a1 a2 A Lc = fX11_error_b14 fu a1 a2 0 A Lc := fun q => by
    unfold DX11_error fX11_error_b13
    by_cases q1 : a1 = -1
    · rw [if_pos q1, if_neg (fun z => q ⟨q1, z⟩)]
    · rw [if_neg q1]
  have eM : ∀ M0, ¬ (a1 = -1 ∧ a2 = 0) → DX12_error fu a1 a2 M0 Lm = fX12_error_b19 fu a1 a2 (mset M0 821 0 0) Lm := fun M0 q => by
    unfold DX12_error
    rw [mlet_e]
    by_cases q1 : a1 = -1
    · rw [if_pos q1, if_neg (fun z => q ⟨q1, z⟩)]
    · rw [if_neg q1]
  rcases h.2.2.2.2 with ⟨c1, c2⟩ | ⟨c1, c2, C, S, F, W, R, X, T, t, E, d, tu, g, own, bd, si, p, o, e, ec, tc, fl, c3, c4, c5⟩
  · have e1 : DX11_error fu a1 a2 A Lc = some ((3, 0), A, Lc) := by
      by_cases q : a1 = -1 ∧ a2 = 0
      · unfold DX11_error fX11_error_b14 fX11_error_b44
        rw [if_pos q.1, if_pos q.2, if_pos c1]
      · rw [eC q]
        unfold fX11_error_b14 fX11_error_b44
        rw [if_pos c1]
    have e2 : DX19_error fu a1 a2 M Lm = some (0, mset M 732 0 1, Lm) := by
      unfold DX19_error fX19_error_b13
      rw [if_pos c2, mlet_e, mset_s, if_neg (show ¬ (1 : Int32) ≤ 0 by decide)]
    rw [e1, e2]
    exact ⟨3, 0, A, _, Lc, Lm, rfl, rfl, mset_s, HS_0 h⟩
  have n5 : ¬ A 0 5 = 0 := by rw [c1]; decide
  have n4 : ¬ M 732 4 = 0 := by rw [c2]; decide
  have eR : ∀ v M', DX12_error fu a1 a2 (mset M 732 0 0) Lm = some (v, M', Lm) → DX19_error fu a1 a2 M Lm = some ((if M' 821 0 ≤ 0 then v else 0), mset M' 732 0 (M' 821 0), Lm) := fun v M' e => by
    unfold DX19_error fX19_error_b13 fX19_error_b58 DX12_thrown
    rw [if_neg n4, mlet_e, mset_s, if_pos (show (0 : Int32) ≤ 0 by decide), e, mb3_s, mb3_s, mlet_e, mset_s]
    by_cases q : M' 821 0 ≤ 0
    · rw [if_pos q, if_pos q]
    · rw [if_neg q, if_neg q]
  have hs : ∀ M', (∀ a y, ¬ (a = 821 ∧ y = 0) → ¬ (a = 732 ∧ y = 0) → M' a y = M a y) → ∀ v, HS A (mset M' 732 0 v) Lc Lm Sb := fun M' q v => HS_e h (fun _ _ _ _ => rfl) (fun a y u1 u2 u3 u4 u5 u6 u7 u8 => by rw [mset_n (by omega)]; exact q a y (by omega) (by omega)) (fun _ _ => rfl) (fun _ _ _ => rfl)
  have c3' := CAR_f (M' := mset M 732 0 0) c3 (fun _ _ _ => rfl) (fun a y u => mset_n (by omega))
  obtain ⟨hTk, _, _, ⟨F', ow, id', oc, dn, asl, hB⟩, hSl, _⟩ := c3'
  have kt := hTk.2.2.2.2.2.2.2.2.2.2.2.2.2
  obtain ⟨⟨b1, ⟨b2, b3, b4⟩, b5, b6, b7, b8, ⟨b9, b9', b9''⟩, b10, b11, b12, b13, b14⟩, hNd, _⟩ := hB
  have hs7 : s7 ec ≤ 17507 := by
    unfold s7
    have q0 := (b14 0 (by omega)).1
    have q1 := (b14 1 (by omega)).1
    have q2 := (b14 2 (by omega)).1
    have q3 := (b14 3 (by omega)).1
    have q4 := (b14 4 (by omega)).1
    have q5 := (b14 5 (by omega)).1
    have q6 := (b14 6 (by omega)).1
    omega
  by_cases q : a1 = -1 ∧ a2 = 0
  · have e1 : DX11_error fu a1 a2 A Lc = some ((0, sI (s7 ec)), A, Lc) := by
      unfold DX11_error fX11_error_b14 fX11_error_b54 fX11_error_b102
      rw [if_pos q.1, if_pos q.2, if_neg n5, if_neg (show ¬ (1 : Int32) = 0 by decide), q.2, if_neg (show ¬ (0 : Int32) < 0 by decide), if_pos (show (0 : Int32) ≤ 2 by decide), if_neg (show ¬ (1 : Int32) = 0 by decide), b9]
    have e2 : DX12_error fu a1 a2 (mset M 732 0 0) Lm = some (sI (s7 ec), mset (mset M 732 0 0) 821 0 0, Lm) := by
      unfold DX12_error
      rw [mlet_e, if_pos q.1, if_pos q.2, mset_n (show ¬ (821 = 821 ∧ 29 = 0) by omega), b9']
    rw [e1, eR _ _ e2, mset_s, if_pos (show (0 : Int32) ≤ 0 by decide)]
    exact ⟨0, sI (s7 ec), A, _, Lc, Lm, rfl, rfl, mset_s, hs _ (fun a y u1 u2 => by rw [mset_n (by omega), mset_n (by omega)]) _⟩
  have fin : ∀ w : Nat, ∀ k : Int32, ¬ k ≤ 0 → k = sI (mp32 w) → fX11_error_b14 fu a1 a2 0 A Lc = some ((w, 0), A, Lc) → fX12_error_b19 fu a1 a2 (mset (mset M 732 0 0) 821 0 0) Lm = fX12_error_b50 fu a1 a2 k (mset (mset M 732 0 0) 821 0 0) Lm → CaQ mp32 Sb (DX11_error fu a1 a2 A Lc) (DX19_error fu a1 a2 M Lm) := fun w k hk hw e1 e2 => by
    have e3 : DX12_error fu a1 a2 (mset M 732 0 0) Lm = some (0, mset (mset (mset M 732 0 0) 821 0 0) 821 0 k, Lm) := by
      rw [eM _ q, e2]
      unfold fX12_error_b50
      rw [mlet_e, mset_s, if_neg hk]
    rw [eC q, e1, eR _ _ e3, mset_s, if_neg hk]
    exact ⟨w, 0, A, _, Lc, Lm, rfl, rfl, by rw [mset_s, hw], hs _ (fun a y u1 u2 => by rw [mset_n (by omega), mset_n (by omega), mset_n (by omega)]) _⟩
  by_cases c0 : a1 < 0
  · refine fin 3 1 (by decide) rfl ?_ ?_
    · unfold fX11_error_b14 fX11_error_b44
      rw [if_neg n5, if_pos (show (0 : Int32) = 0 from rfl), if_pos c0]
    · unfold fX12_error_b19 fX12_error_b32
      rw [if_pos c0]
  have b29 : (mset (mset M 732 0 0) 821 0 0) 821 29 = sI (s7 ec) := by rw [mset_n (by omega)]; exact b9'
  by_cases cE : a1 < sI (s7 ec)
  rotate_left
  · refine fin 3 1 (by decide) rfl ?_ ?_
    · unfold fX11_error_b14 fX11_error_b44
      rw [if_neg n5, if_pos (show (0 : Int32) = 0 from rfl), if_neg c0, b9, if_neg cE]
    · unfold fX12_error_b19 fX12_error_b32
      rw [if_neg c0, b29, if_neg cE]
  by_cases d0 : a2 < 0
  · refine fin 2 2 (by decide) rfl ?_ ?_
    · unfold fX11_error_b14 fX11_error_b54 fX11_error_b63
      rw [if_neg n5, if_pos (show (0 : Int32) = 0 from rfl), if_neg c0, b9, if_pos cE, if_pos d0]
    · unfold fX12_error_b19 fX12_error_b45
      rw [if_neg c0, b29, if_pos cE, if_pos d0]
  by_cases d2 : a2 ≤ 2
  rotate_left
  · refine fin 2 2 (by decide) rfl ?_ ?_
    · unfold fX11_error_b14 fX11_error_b54 fX11_error_b63
      rw [if_neg n5, if_pos (show (0 : Int32) = 0 from rfl), if_neg c0, b9, if_pos cE, if_neg d0, if_neg d2]
    · unfold fX12_error_b19 fX12_error_b45
      rw [if_neg c0, b29, if_pos cE, if_neg d0, if_neg d2]
  obtain ⟨i, hi, rfl⟩ := nat_lt' c0 cE (by omega)
  obtain ⟨w, hw, rfl⟩ := nat_le (m := 2) (Int32.not_lt.mp d0) d2 (by omega)
  obtain ⟨v, v1, v2⟩ := st_error (fu := fu) (w := w) (Lc := Lc) (Lm := Lm) b9'' b9' hs7 hi (by omega)
  have e1 : DX11_error fu (sI i) (sI w) A Lc = some ((0, v), A, Lc) := by
    rw [eC q]
    unfold fX11_error_b14 fX11_error_b54 fX11_error_b102
    rw [if_neg n5, if_pos (show (0 : Int32) = 0 from rfl), if_neg c0, b9, if_pos cE, if_neg d0, if_pos d2, if_pos (show (0 : Int32) = 0 from rfl), v1, mb3_s]
  rw [e1, eR _ _ v2, mset_s, if_pos (show (0 : Int32) ≤ 0 by decide)]
  exact ⟨0, v, A, _, Lc, Lm, rfl, rfl, mset_s, hs _ (fun a y u1 u2 => by rw [mset_n (by omega), mset_n (by omega), mset_n (by omega)]) _⟩
