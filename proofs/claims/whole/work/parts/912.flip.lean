/-! CALLS: flip -/
theorem HS_c {A A' M M' : mwM} {Lc Lc' Lm Lm' : mwL} {C S F W R X T t E : Nat} {d : Nat → Nat → Nat} {tu : Nat → Bool} {g : Nat → Nat → Nat} {own Sb bd : Nat → Nat} {si : Nat → Bool} {p : PB} {o : Nat → Nat → Nat} {e ec tc fl : Nat → Nat} (h : HS A M Lc Lm Sb) (c : CAR A' M' Lc' Lm' C S F W R X T t E d tu g own Sb bd si p o e ec tc fl) (c1 : A 0 5 = 1) (c2 : M 732 4 = 1) (c4 : A' 3 14 = sI X) (c5 : ∀ c, C ≤ c → c < 6 → si c = false) (hA : ∀ a y, a ≤ 2 → ¬ (a = 0 ∧ y = 3) → A' a y = A a y) (hM : ∀ a y, (a = 732 ∧ 2 ≤ y ∧ y ≤ 5) ∨ a = 733 ∨ (941 ≤ a ∧ a < 1577 ∧ (a - 941) % 53 = 8) ∨ (964 ≤ a ∧ a < 1577 ∧ 1 ≤ (a - 964) % 53 ∧ (a - 964) % 53 ≤ 3) → M' a y = M a y) (hC : ∀ a, a < 732 → Lc' a = Lc a) (hL : ∀ a, 732 ≤ a → a < 1577 → Lm' a = Lm a) : HS A' M' Lc' Lm' Sb := by
  obtain ⟨⟨k, k1, k2, k3⟩, ⟨n, tx, t1, t2⟩, ⟨i1, i2, i3, i4, i5⟩, h5, _⟩ := h
  obtain ⟨n1, n2, n3⟩ := car_hi c
  refine ⟨⟨k, k1, by rw [hA _ _ (by omega) (by omega)]; exact k2, by rw [hM _ _ (by omega)]; exact k3⟩, ⟨n, tx, TxC_f t1 (fun x y u => hA x y (by omega) (by omega)), TxM_f t2 (fun x y u => hM x y (by omega))⟩, ⟨n1, n2, n3, fun x hx => ?_, fun a ha y hy => by rw [hM _ _ (by omega)]; exact i5 a ha y hy⟩, by rw [hA _ _ (by omega) (by omega), hM _ _ (by omega)]; exact h5, Or.inr ⟨by rw [hA _ _ (by omega) (by omega)]; exact c1, by rw [hM _ _ (by omega)]; exact c2, C, S, F, W, R, X, T, t, E, d, tu, g, own, bd, si, p, o, e, ec, tc, fl, c, c4, c5⟩⟩
  obtain ⟨b1, b2, b3, b4⟩ := i4 x hx
  rw [hM _ _ (by omega), hM _ _ (by omega), hM _ _ (by omega), hC _ (by omega), hL _ (by omega) (by omega)]
  exact ⟨b1, b2, b3, b4⟩
def CaT (mp : Nat → Nat) (Sb : Nat → Nat) (P : Option (Nat × mwM × mwL)) (Q : Option (mwM × mwL)) : Prop := ∃ (w : Nat) (A' M' : mwM) (Lc' Lm' : mwL), P = some (w, A', Lc') ∧ Q = some (M', Lm') ∧ M' 732 0 = sI (mp w) ∧ HS A' M' Lc' Lm' Sb
theorem st_lflip {fu : Nat} {a1 a2 : Int32} {A M : mwM} {Lc Lm : mwL} {Sb : Nat → Nat} (h : HS A M Lc Lm Sb) : CaT mp32 Sb (DX11_flip fu a1 a2 A Lc) (DX19_flip fu a1 a2 M Lm) := by
  unfold DX11_flip DX19_flip fX11_flip_b22 fX11_flip_b50 fX19_flip_b20 fX19_flip_b39 fX19_flip_b44 fX19_flip_b63
  simp only [mlet_e, mset_s]
  rw [if_neg (show ¬ (1 : Int32) = 0 by decide), if_neg (show ¬ (2 : Int32) = 0 by decide)]
  have bad : CaT mp32 Sb (some (3, A, Lc)) (some (mset M 732 0 1, Lm)) := ⟨3, A, _, Lc, Lm, rfl, rfl, mset_s, HS_0 h⟩
  have bad2 : CaT mp32 Sb (some (2, A, Lc)) (some (mset M 732 0 2, Lm)) := ⟨2, A, _, Lc, Lm, rfl, rfl, mset_s, HS_0 h⟩
  rcases h.2.2.2.2 with ⟨c1, c2⟩ | ⟨c1, c2, C, S, F, W, R, X, T, t, E, d, tu, g, own, bd, si, p, o, e, ec, tc, fl, c3, c4, c5⟩
  · rw [if_pos c1, if_pos c2]
    exact bad
  rw [if_neg (show ¬ A 0 5 = 0 by rw [c1]; decide), if_neg (show ¬ M 732 4 = 0 by rw [c2]; decide)]
  have c3' := CAR_f (M' := mset M 732 0 0) c3 (fun _ _ _ => rfl) (fun a y u => mset_n (by omega))
  obtain ⟨hTk, hTr, hp, ⟨F', ow, id', oc, dn, asl, hB⟩, hSl, _⟩ := id c3'
  have s9 := hSl.2.2.2.2.2.2.2.2.1
  have s8 := hSl.2.2.2.2.2.2.2.1
  rw [mset_n (by omega)] at s8
  have hC := hSl.2.2.2.2.2.2.2.2.2.1
  have k16 := hTk.2.2.2.2.2.2.2.2.2.2.2.1
  have k83 := hTk.2.2.2.2.2.2.2.2.2.2.2.2.1
  rw [mset_n (by omega)] at k83
  have kt := hTk.2.2.2.2.2.2.2.2.2.2.2.2.2
  rw [s8, s9, k16, k83]
  by_cases c0 : a1 < 0
  · rw [if_pos c0, if_pos c0]
    exact bad
  rw [if_neg c0, if_neg c0]
  by_cases cS : a1 ≤ sI C
  rotate_left
  · rw [if_neg cS, if_neg cS]
    exact bad
  rw [if_pos cS, if_pos cS]
  obtain ⟨n, hn, rfl⟩ := nat_le (Int32.not_lt.mp c0) cS (by omega)
  by_cases d0 : a2 < sI t
  · rw [if_pos d0, if_pos d0]
    exact bad2
  rw [if_neg d0, if_neg d0]
  have dd : a2 ≤ 19999 ↔ a2 < 20000 := by
    rw [Int32.le_iff_toInt_le, Int32.lt_iff_toInt_lt]
    show a2.toInt ≤ 19999 ↔ a2.toInt < 20000
    omega
  by_cases d4 : a2 < 20000
  rotate_left
  · rw [if_neg d4, if_neg (fun z => d4 (dd.mp z))]
    exact bad2
  rw [if_pos d4, if_pos (dd.mpr d4)]
  have hneg : ¬ a2 < 0 := fun z => d0 (Int32.lt_iff_toInt_lt.mpr (by
    have := Int32.lt_iff_toInt_lt.mp z
    rw [sI_toInt (by omega)]
    have hz : (0 : Int32).toInt = 0 := rfl
    omega))
  obtain ⟨i, hi, rfl⟩ := nat_lt' (m := 20000) hneg d4 (by omega)
  have hti : t ≤ i := by
    rw [sI_lt (by omega) (by omega)] at d0
    omega
  obtain ⟨M', x1, x2, x3⟩ := st_flip (fu := fu) (Lm := Lm) hB (show n < C + 1 by omega) hti hi
  rw [mck_s hi (by omega), mck_s hi (by omega), sI_nn (by omega), x1, mb2_s]
  have fM : ∀ a y, ¬ (a = 732 ∧ y = 0) → ¬ (a = 821 ∧ y = 0) → a ≠ 838 → M' a y = M a y := fun a y u1 u2 u3 => by rw [x3 a y u2 u3, mset_n u1]
  refine ⟨0, _, M', Lc, Lm, rfl, rfl, by rw [x3 _ _ (by omega) (by omega), mset_s]; rfl, ?_⟩
  refine HS_c h (CAR_x (si' := si) c3 (TrB_f hTr (fun a y u => mset_n (by omega)) (fun a y u => x3 a y (by omega) (by omega)) (fun _ _ _ _ => rfl)) hp ⟨F', ow, id', oc, dn, asl, x2⟩ (RTr_fr hTk.2.2.2.2.2.1 (fun a y u1 u2 => mset_n (by omega)) (fun a y u1 u2 u3 => x3 a y (by omega) (by omega))) (fun c hc => by rw [mset_n (by omega), x3 _ _ (by omega) (by omega)]; exact hSl.2.2.2.2.2.1 c hc) (fun a y u1 u2 u3 u4 u5 u6 u7 => mset_n (by omega)) (fun a y u1 u2 u3 u4 u5 u6 u7 u8 u9 => fM a y (by omega) (by omega) (by omega)) (fun _ _ => rfl) (fun _ _ _ => rfl)) c1 c2 (by rw [mset_n (by omega)]; exact c4) c5 (fun a y u1 u2 => mset_n (by omega)) (fun a y u => fM a y (by omega) (by omega) (by omega)) (fun _ _ => rfl) (fun _ _ _ => rfl)
