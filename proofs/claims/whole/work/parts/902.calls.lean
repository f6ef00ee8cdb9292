/-! CALLS: place, cut, count -/
theorem HS_w {A A' M M' : mwM} {Lc Lm : mwL} {Sb : Nat → Nat} (h : HS A M Lc Lm Sb) (hA : ∀ a y, ¬ (a = 1 ∧ y = 4) → A' a y = A a y) (hM : ∀ a y, ¬ (a = 732 ∧ (y = 0 ∨ y = 2)) → M' a y = M a y) (ht : ∃ n tx, TxC A' n tx ∧ TxM M' n tx) : HS A' M' Lc Lm Sb := by
  obtain ⟨⟨k, k1, k2, k3⟩, _, ⟨i1, i2, i3, i4, i5⟩, h5, hc⟩ := h
  refine ⟨⟨k, k1, by rw [hA _ _ (by omega)]; exact k2, by rw [hM _ _ (by omega)]; exact k3⟩, ht, ⟨RCd_fr i1 (fun a y u1 u2 => hA a y (by omega)) (fun a y u => hM a y (by omega)), OcA_f i2 (fun a y u1 u2 => hA a y (by omega)), by rw [hM _ _ (by omega)]; exact i3, PrB_f i4 (fun a u1 u2 => hM a 0 (by omega)) (fun _ _ _ _ _ => rfl) (fun _ _ _ _ _ => rfl), fun a ha y hy => by rw [hM _ _ (by omega)]; exact i5 a ha y hy⟩, by rw [hA _ _ (by omega), hM _ _ (by omega)]; exact h5, ?_⟩
  rcases hc with ⟨c1, c2⟩ | ⟨c1, c2, C, S, F, W, R, X, T, t, E, d, tu, g, own, bd, si, p, o, e, ec, tc, fl, c3, c4, c5⟩
  · exact Or.inl ⟨by rw [hA _ _ (by omega)]; exact c1, by rw [hM _ _ (by omega)]; exact c2⟩
  · exact Or.inr ⟨by rw [hA _ _ (by omega)]; exact c1, by rw [hM _ _ (by omega)]; exact c2, C, S, F, W, R, X, T, t, E, d, tu, g, own, bd, si, p, o, e, ec, tc, fl, CAR_f c3 (fun a y u => hA a y (by omega)) (fun a y u => hM a y (by omega)), by rw [hA _ _ (by omega)]; exact c4, c5⟩
theorem st_place {fu : Nat} {A M : mwM} {Lc Lm : mwL} {Sb : Nat → Nat} (h : HS A M Lc Lm Sb) : ∃ r, DX11_place fu A Lc = some (r, A, Lc) ∧ DX19_place fu M Lm = some (r, mset M 732 0 0, Lm) ∧ HS A (mset M 732 0 0) Lc Lm Sb := by
  refine ⟨A 1 13, rfl, ?_, HS_0 h⟩
  unfold DX19_place
  rw [mlet_e, mset_n (by omega), h.2.2.2.1]
/-- how a call ends on both sides; mp: what the class throws, as the reference numbers it -/
def CaQ (mp : Nat → Nat) (Sb : Nat → Nat) (P : Option ((Nat × Int32) × mwM × mwL)) (Q : Option (Int32 × mwM × mwL)) : Prop := ∃ (w : Nat) (r : Int32) (A' M' : mwM) (Lc' Lm' : mwL), P = some ((w, r), A', Lc') ∧ Q = some (r, M', Lm') ∧ M' 732 0 = sI (mp w) ∧ HS A' M' Lc' Lm' Sb
abbrev mp21 (w : Nat) : Nat := if w = 0 then 0 else 3 - w
theorem st_lcut {fu : Nat} {a1 : Int32} {A M : mwM} {Lc Lm : mwL} {Sb : Nat → Nat} (h : HS A M Lc Lm Sb) : CaQ mp21 Sb (DX11_cut fu a1 A Lc) (DX19_cut fu a1 M Lm) := by
  obtain ⟨n, tx, t1, t2⟩ := h.2.1
  unfold DX11_cut DX19_cut fX11_cut_b15 fX19_cut_b13 fX19_cut_b18
  have bad : CaQ mp21 Sb (some ((2, 0), A, Lc)) (mlet (mset M 732 0 1) (fun M1 => (if (M1 732 0) ≤ 0 then mlet (mset M1 732 2 a1) (fun M3 => some (a1, M3, Lm)) else some (0, M1, Lm)))) := by
    rw [mlet_e, mset_s, if_neg (show ¬ (1 : Int32) ≤ 0 by decide)]
    exact ⟨2, 0, A, _, Lc, Lm, rfl, rfl, mset_s, HS_0 h⟩
  by_cases c0 : a1 < 0
  · rw [if_pos c0, if_pos c0]
    exact bad
  rw [if_neg c0, if_neg c0, t1.1, t2.1]
  by_cases c1 : a1 ≤ sI n
  rotate_left
  · rw [if_neg c1, if_neg c1]
    exact bad
  have hn := t1.2.1
  obtain ⟨m, hm, rfl⟩ := nat_le (Int32.not_lt.mp c0) c1 (by omega)
  rw [if_pos c1, if_pos c1, mlet_e, mlet_e, mset_s, if_pos (show (0 : Int32) ≤ 0 by decide), mlet_e]
  refine ⟨0, sI m, _, _, Lc, Lm, rfl, rfl, by rw [mset_n (by omega), mset_s]; rfl, HS_w h (fun a y u => mset_n (by omega)) (fun a y u => by rw [mset_n (by omega), mset_n (by omega)]) ⟨m, tx, ⟨mset_s, by omega, fun j hj => ?_⟩, ⟨mset_s, by omega, fun j hj => ?_⟩⟩⟩
  · rw [mset_n (by omega)]
    exact t1.2.2 j (by omega)
  · rw [mset_n (by omega), mset_n (by omega)]
    exact t2.2.2 j (by omega)
