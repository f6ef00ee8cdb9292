/-! CALLS: text -/
theorem HS_t {A A' M M' : mwM} {Lc Lm : mwL} {Sb : Nat → Nat} (h : HS A M Lc Lm Sb) (hA : ∀ a y, a ≠ 2 → ¬ (a = 1 ∧ y = 4) → A' a y = A a y) (hM : ∀ a y, a ≠ 733 → ¬ (a = 732 ∧ (y = 0 ∨ y = 2)) → M' a y = M a y) (ht : ∃ n tx, TxC A' n tx ∧ TxM M' n tx) : HS A' M' Lc Lm Sb := by
  obtain ⟨⟨k, k1, k2, k3⟩, _, ⟨i1, i2, i3, i4, i5⟩, h5, hc⟩ := h
  refine ⟨⟨k, k1, by rw [hA _ _ (by omega) (by omega)]; exact k2, by rw [hM _ _ (by omega) (by omega)]; exact k3⟩, ht, ⟨RCd_fr i1 (fun a y u1 u2 => hA a y (by omega) (by omega)) (fun a y u => hM a y (by omega) (by omega)), OcA_f i2 (fun a y u1 u2 => hA a y (by omega) (by omega)), by rw [hM _ _ (by omega) (by omega)]; exact i3, PrB_f i4 (fun a u1 u2 => hM a 0 (by omega) (by omega)) (fun _ _ _ _ _ => rfl) (fun _ _ _ _ _ => rfl), fun a ha y hy => by rw [hM _ _ (by omega) (by omega)]; exact i5 a ha y hy⟩, by rw [hA _ _ (by omega) (by omega), hM _ _ (by omega) (by omega)]; exact h5, ?_⟩
  rcases hc with ⟨c1, c2⟩ | ⟨c1, c2, C, S, F, W, R, X, T, t, E, d, tu, g, own, bd, si, p, o, e, ec, tc, fl, c3, c4, c5⟩
  · exact Or.inl ⟨by rw [hA _ _ (by omega) (by omega)]; exact c1, by rw [hM _ _ (by omega) (by omega)]; exact c2⟩
  · exact Or.inr ⟨by rw [hA _ _ (by omega) (by omega)]; exact c1, by rw [hM _ _ (by omega) (by omega)]; exact c2, C, S, F, W, R, X, T, t, E, d, tu, g, own, bd, si, p, o, e, ec, tc, fl, CAR_e c3 (fun a y u1 u2 => hA a y (by omega) (by omega)) (fun a y u1 u2 u3 u4 u5 u6 u7 u8 => hM a y (by omega) (by omega)) (fun _ _ => rfl) (fun _ _ _ => rfl), by rw [hA _ _ (by omega) (by omega)]; exact c4, c5⟩
theorem st_ltext {fu : Nat} {a b c d : Int32} {A M : mwM} {Lc Lm : mwL} {Sb : Nat → Nat} (hfu : 17 ≤ fu) (h : HS A M Lc Lm Sb) : ∃ k A' M', DL_text fu a b c d A Lc = some (k, A', Lc) ∧ DX19_text fu a b c d M Lm = some (M', Lm) ∧ M' 732 0 = k ∧ HS A' M' Lc Lm Sb := by
  obtain ⟨n, tx, t1, t2⟩ := h.2.1
  by_cases hc : n + nz (l16 a b c d) ≤ 6000
  rotate_left
  · exact ⟨1, A, mset M 732 0 1, by rw [ct_text (by omega) t1.1 t1.2.1, if_neg hc], by rw [mt_text hfu t2.1 t2.2.1, if_neg hc], mset_s, HS_0 h⟩
  obtain ⟨p1, p2, p3, p4⟩ := pu_all (r := 2) (c := 1) (f := 4) (by decide) (l16 a b c d) A n t1.1 (by omega)
  have hm2 : mset M 732 0 0 732 2 = sI n := by rw [mset_n (by omega)]; exact t2.1
  obtain ⟨q1, q2, q3, q4⟩ := pu_all (r := 733) (c := 732) (f := 2) (by decide) (l16 a b c d) (mset M 732 0 0) n hm2 (by omega)
  refine ⟨0, pu 2 1 4 A (l16 a b c d), pu 733 732 2 (mset M 732 0 0) (l16 a b c d), by rw [ct_text (by omega) t1.1 t1.2.1, if_pos hc], by rw [mt_text hfu t2.1 t2.2.1, if_pos hc], by rw [q2 _ _ (by decide) (by decide), mset_s], ?_⟩
  have key : ∀ j, j < n + nz (l16 a b c d) → ∃ x, 0 < x ∧ x < 256 ∧ pu 2 1 4 A (l16 a b c d) 2 j = sI x ∧ pu 733 732 2 (mset M 732 0 0) (l16 a b c d) 733 j = sI x := fun j hj => by
    by_cases hjn : j < n
    · obtain ⟨y1, y2, y3⟩ := t1.2.2 j hjn
      obtain ⟨z1, _, _⟩ := t2.2.2 j hjn
      exact ⟨tx j, y2, y3, by rw [p3 j hjn]; exact y1, by rw [q3 j hjn, mset_n (by omega)]; exact z1⟩
    · have ej : j = n + (j - n) := by omega
      have hi : j - n < nz (l16 a b c d) := by omega
      have hmem := List.getElem_mem (l := (l16 a b c d).filter (fun x => x ≠ 0)) (n := j - n) hi
      rw [List.mem_filter] at hmem
      obtain ⟨x, hx, ex⟩ := l16_n hmem.1
      refine ⟨x, ?_, hx, by rw [ej, p4 (j - n) hi]; exact ex, by rw [ej, q4 (j - n) hi]; exact ex⟩
      have hne := hmem.2
      rw [ex] at hne
      rcases Nat.eq_zero_or_pos x with rfl | hp
      · exact absurd hne (by decide)
      · exact hp
  refine HS_t h (fun x y u1 u2 => p2 x y u1 u2) (fun x y u1 u2 => by rw [q2 x y u1 (by omega), mset_n (by omega)]) ⟨n + nz (l16 a b c d), fun j => (pu 2 1 4 A (l16 a b c d) 2 j).toNatClampNeg, ⟨p1, hc, fun j hj => ?_⟩, ⟨q1, hc, fun j hj => ?_⟩⟩
  · obtain ⟨x, x1, x2, x3, x4⟩ := key j hj
    dsimp only
    rw [x3, sI_nn (by omega)]
    exact ⟨rfl, x1, x2⟩
  · obtain ⟨x, x1, x2, x3, x4⟩ := key j hj
    dsimp only
    rw [x3, x4, sI_nn (by omega)]
    exact ⟨rfl, x1, x2⟩
