abbrev frM (i : Nat) (M M' : mwM) : Prop := ∀ b y, ¬ (y = i + 1 ∧ (b = 796 ∨ b = 798 ∨ b = 799 ∨ b = 801 ∨ b = 802 ∨ b = 804)) → ¬ (b = 787 ∧ y = 39) → b ≠ 817 → b ≠ 818 → M' b y = M b y
abbrev frL (i : Nat) (L L' : mwL) : Prop := ∀ b y, ¬ (y = i + 1 ∧ (b = 797 ∨ b = 800)) → ¬ (b = 787 ∧ y = 21) → b ≠ 819 → L' b y = L b y
/-- RC again, one task's numbers having changed -/
theorem RC_one {A A' M M' : mwM} {L L' : mwL} {T C tn cn U tn' cn' i : Nat} (h : RC A M L T C tn cn U) (hi : i < T) (htn : tn ≤ tn') (htn2 : tn' < 100000000) (hcn2 : cn' < 100000000) (hA4 : A' 5 4 = sI tn') (hA3 : A' 5 3 = A 5 3) (hA : ∀ b y, 7 ≤ b → b ≤ 17 → y ≠ i → A' b y = A b y) (h21 : L' 787 21 = sL tn') (h39 : M' 787 39 = sI cn') (hM : frM i M M') (hL : frL i L L') (hone : ∃ rk co pe mi nx st lf wa tu us dn, ti C tn' U rk co pe mi nx st lf wa tu us dn ∧ tk A' i rk co pe mi nx st lf wa tu us dn ∧ tm M' L' i rk co mi st lf wa tu us) (hch : ∀ c, c < 6 → ∃ w, A' 18 c = oI w ∧ (∀ x, w = some x → x < T) ∧ ∀ i, i < T → ((A' 8 i = sI c ∧ A' 12 i = 2) ↔ w = some i)) : RC A' M' L' T C tn' cn' U := by
  obtain ⟨h1, h2, h3, h4, h5, h6, h7, h8, h9, h10, h11, h12, h13, h14, h15, h16, h17⟩ := h
  refine ⟨h1, h2, htn2, hcn2, hA3.trans h5, (hM _ _ (by omega) (by omega) (by omega) (by omega)).trans h6, (hM _ _ (by omega) (by omega) (by omega) (by omega)).trans h7, (hM _ _ (by omega) (by omega) (by omega) (by omega)).trans h8, hA4, h21, (hM _ _ (by omega) (by omega) (by omega) (by omega)).trans h11, (hM _ _ (by omega) (by omega) (by omega) (by omega)).trans h12, fun r q1 q2 => (hM _ _ (by omega) (by omega) (by omega) (by omega)).trans (h13 r q1 q2), fun r q1 q2 => (hM _ _ (by omega) (by omega) (by omega) (by omega)).trans (h14 r q1 q2), h39, ?_, hch⟩
  intro x hx
  by_cases hxi : x = i
  · subst hxi; exact hone
  · obtain ⟨rk, co, pe, mi, nx, st, lf, wa, tu, us, dn, q1, q2, q3⟩ := h16 x hx
    refine ⟨rk, co, pe, mi, nx, st, lf, wa, tu, us, dn, ?_, tk_f q2 (fun b h1 h2 => hA b x h1 h2 hxi), tm_f q3 (fun b _ _ _ _ _ _ _ _ _ => hM _ _ (by omega) (by omega) (by omega) (by omega)) (hM _ _ (by omega) (by omega) (by omega) (by omega)) (hM _ _ (by omega) (by omega) (by omega) (by omega)) (hL _ _ (by omega) (by omega) (by omega)) (fun b _ _ => hL _ _ (by omega) (by omega) (by omega))⟩
    obtain ⟨w1, w2, w3, w4, w5, w6, w7, w8, w9, w10, w11, w12⟩ := q1
    exact ⟨w1, w2, w3, w4, w5, w6, w7, w8, w9, w10, by omega, w12⟩
theorem st_act1 {fu : Nat} {A M : mwM} {L : mwL} {T C tn cn U t j : Nat} (h : RC A M L T C tn cn U) (hj : j < T) (ht : t < 20000) (htn : tn + 1 < 100000000) (hcn : cn + 1 < 100000000) (h11 : A 11 j = sI t) : ∃ M' L' tn' cn', DX15_begin fu (sI (j + 1)) M L = some (M', L') ∧ tn ≤ tn' ∧ tn' ≤ tn + 1 ∧ cn' ≤ cn + 1 ∧ RC (act1 A t j) M' L' T C tn' cn' U ∧ frM j M M' ∧ frL j L L' := by
  have h0 := h
  obtain ⟨hT, hC, _, _, a3, _, _, _, a4, l21, _, _, _, _, m39, ht1, hch⟩ := h0
  obtain ⟨rk, co, pe, mi, nx, st, lf, wa, tu, us, dn, q1, q2, q3⟩ := ht1 j hj
  obtain ⟨w1, w2, w3, w4, w5, w6, w7, w8, w9, w10, w11, w12, w13, w14, w15, w16⟩ := q1
  have q2' := q2
  obtain ⟨k1, k2, k3, k4, k5, k6, k7, k8, k9, k10, k11⟩ := q2'
  have q3' := q3
  obtain ⟨m1, m2, m3, m4, m5, m6, m7, m8, m9, m10, m11, m12, m13⟩ := q3'
  have enx : nx = t := by
    rw [k5] at h11
    exact (sI_eq (by omega) (by omega)).mp h11
  have e11 : A 11 j + A 9 j = sI (nx + pe) := by rw [k5, k3, sI_add]
  have hwj : ∀ c, c < 6 → ∀ w, (∀ i, i < T → ((A 8 i = sI c ∧ A 12 i = 2) ↔ w = some i)) → st ≠ 2 → w ≠ some j := by
    intro c hc w hw hs q
    have := ((hw j hj).mpr q).2
    rw [k6] at this
    have : st = 2 := (sI_eq (a := st) (b := 2) (by omega) (by omega)).mp this
    exact hs this
  by_cases hst : st = 0
  · subst hst
    obtain ⟨hlf, hwa⟩ := w14 rfl
    subst hlf hwa
    have hus := w15 rfl
    refine ⟨_, _, tn + 1, cn, m_begin0 (by omega) m8 l21, by omega, by omega, by omega, ?_, ?_, ?_⟩
    · have eA : act1 A t j = mset (mset (mset (mset (mset (mset A 11 j (sI (nx + pe))) 5 6 0) 5 4 (sI (tn + 1))) 12 j 1) 15 j (sI (tn + 1))) 13 j (sI (mi + 1)) := by
        unfold act1
        rw [if_pos h11, if_pos (by rw [k6]; rfl), e11, a4, k4, sI_1, sI_1]
      rw [eA]
      refine RC_one h hj (by omega) htn (by omega) ?_ ?_ ?_ ?_ ?_ ?_ ?_ ⟨rk, co, pe, mi, nx + pe, 1, mi + 1, 0, tn + 1, us, dn, ?_, ?_, ?_⟩ ?_
      · simp [mset]
      · simp [mset]
      · intro b y h1 h2 h3
        rw [mset_n (by omega), mset_n (by omega), mset_n (by omega), mset_n (by omega), mset_n (by omega), mset_n (by omega)]
      · simp [mset]
      · rw [mset_k (by decide), mset_k (by decide), mset_k (by decide), mset_k (by decide)]; exact m39
      · intro b y h1 h2 h3 h4
        rw [mset_n (by omega), mset_n (by omega), mset_n (by omega), mset_n (by omega)]
      · intro b y h1 h2 h3
        rw [mset_n (by omega), mset_n (by omega), mset_n (by omega)]
      · refine ⟨w1, w2, w3, w4, w5, w6, by omega, by omega, by omega, by omega, by omega, w12, w13, fun h => by omega, fun h => by omega, fun _ => ?_⟩
        rw [Nat.add_mul]
        omega
      · refine ⟨?_, ?_, ?_, ?_, ?_, ?_, ?_, ?_, ?_, ?_, ?_⟩ <;> simp [mset, *]
        all_goals rfl
      · refine ⟨?_, ?_, ?_, ?_, ?_, ?_, ?_, ?_, ?_, ?_, ?_, ?_, fun _ => ⟨?_, Or.inl ⟨?_, ?_, rfl⟩⟩⟩
        · rw [mset_k (by decide), mset_k (by decide), mset_k (by decide), mset_k (by decide)]; exact m1
        · rw [mset_k (by decide), mset_k (by decide), mset_k (by decide), mset_k (by decide)]; exact m2
        · rw [mset_k (by decide), mset_k (by decide), mset_k (by decide), mset_k (by decide)]; exact m3
        · rw [mset_k (by decide), mset_k (by decide), mset_k (by decide), mset_k (by decide)]; exact m4
        · rw [mset_k (by decide), mset_k (by decide), mset_k (by decide), mset_k (by decide)]; exact m5
        · rw [mset_k (by decide), mset_k (by decide), mset_k (by decide), mset_k (by decide)]; exact m6
        · rw [mset_k (by decide), mset_k (by decide), mset_k (by decide)]; exact m7
        · rw [mset_k (by decide), mset_k (by decide), mset_k (by decide), mset_s]; rfl
        · rw [mset_k (by decide), mset_k (by decide), mset_k (by decide), mset_k (by decide)]; exact m9
        · rw [mset_k (by decide), mset_k (by decide), mset_k (by decide), mset_k (by decide)]; exact m10
        · rw [mset_k (by decide), mset_k (by decide), mset_k (by decide), mset_k (by decide)]; exact m11
        · rw [mset_k (by decide), mset_k (by decide), mset_k (by decide)]; exact m12
        · rw [mset_k (by decide), mset_s]
        · rw [mset_s]; exact bo_1
        · rw [mset_k (by decide), mset_s]
      · intro c hc
        obtain ⟨w, v1, v2, v3⟩ := hch c hc
        refine ⟨w, ?_, v2, ?_⟩
        · rw [mset_k (by decide), mset_k (by decide), mset_k (by decide), mset_k (by decide), mset_k (by decide), mset_k (by decide)]; exact v1
        · intro i hi
          by_cases hij : i = j
          · subst hij
            have hn := hwj c hc w v3 (by omega)
            constructor
            · intro q
              have q2 := q.2
              rw [mset_k (by decide), mset_k (by decide), mset_s] at q2
              exact absurd q2 (by decide)
            · intro q; exact absurd q hn
          · rw [← v3 i hi]
            rw [mset_n (by omega), mset_n (by omega), mset_n (by omega), mset_n (by omega), mset_n (by omega), mset_n (by omega), mset_n (by omega), mset_n (by omega), mset_n (by omega), mset_n (by omega), mset_n (by omega), mset_n (by omega)]
    · intro b y h1 h2 h3 h4
      rw [mset_n (by omega), mset_n (by omega), mset_n (by omega), mset_n (by omega)]
    · intro b y h1 h2 h3
      rw [mset_n (by omega), mset_n (by omega), mset_n (by omega)]
  · obtain ⟨⟨M', L'⟩, hb, b1, ⟨cn', b2, b3⟩, b4, b5⟩ := m_begin1 (fu := fu) (L := L) (i := j) (by omega) m8 (by omega) w8 m9 w10 m3 m39 (by omega)
    dsimp only at b1 b2 b4 b5
    have fM : frM j M M' := fun b y h1 h2 h3 h4 => b4 b y (by omega) h2 h3 h4
    have fL : frL j L L' := fun b y h1 h2 h3 => b5 b y h3
    refine ⟨M', L', tn, cn', hb, Nat.le_refl _, by omega, b3, ?_, fM, fL⟩
    have eA : ∀ b y, act1 A t j b y = if b = 11 ∧ y = j then sI (nx + pe) else if b = 5 ∧ y = 6 then 0 else if b = 14 ∧ y = j then 1 else A b y := by
      intro b y
      unfold act1
      rw [if_pos h11, if_neg (by rw [k6, sI_eql (by omega) (by decide)]; exact hst), e11, k8]
      have hw01 : wa = 0 ∨ wa = 1 := by omega
      rcases hw01 with hw0 | hw0
      · rw [hw0, if_pos (show sI 0 = 0 from rfl)]
        simp only [mset]
        by_cases c1 : b = 11 ∧ y = j
        · rw [if_pos c1, if_neg (by omega), if_neg (by omega), if_pos c1]
        · rw [if_neg c1]
          by_cases c2 : b = 5 ∧ y = 6
          · rw [if_pos c2, if_neg (by omega), if_pos c2, if_neg c1]
          · rw [if_neg c2]
            by_cases c3 : b = 14 ∧ y = j
            · simp only [if_pos c3, if_neg c2, if_neg c1]
            · simp only [if_neg c3, if_neg c2, if_neg c1]
      · rw [hw0, if_neg (by decide)]
        simp only [mset]
        by_cases c1 : b = 11 ∧ y = j
        · rw [if_pos c1, if_neg (by omega), if_pos c1]
        · rw [if_neg c1]
          by_cases c2 : b = 5 ∧ y = 6
          · rw [if_pos c2, if_pos c2, if_neg c1]
          · rw [if_neg c2]
            by_cases c3 : b = 14 ∧ y = j
            · rw [if_pos c3, if_neg c2, if_neg c1, c3.1, c3.2, k8, hw0]; rfl
            · rw [if_neg c3, if_neg c2, if_neg c1]
    have eo : ∀ b y, ¬ (b = 11 ∧ y = j) → ¬ (b = 5 ∧ y = 6) → ¬ (b = 14 ∧ y = j) → act1 A t j b y = A b y := by
      intro b y h1 h2 h3
      rw [eA, if_neg h1, if_neg h2, if_neg h3]
    refine RC_one h hj (Nat.le_refl _) (by omega) (by omega) ?_ (eo _ _ (by omega) (by omega) (by omega)) (fun b y _ _ hy => eo b y (by omega) (by omega) (by omega)) ?_ b2 fM fL ⟨rk, co, pe, mi, nx + pe, st, lf, 1, tu, us, dn, ?_, ?_, ?_⟩ ?_
    · rw [eo _ _ (by omega) (by omega) (by omega)]; exact a4
    · rw [b5 _ _ (by decide)]; exact l21
    · exact ⟨w1, w2, w3, w4, w5, w6, by omega, w8, w9, by omega, w11, w12, w13, fun h => absurd h hst, w15, w16⟩
    · refine ⟨?_, ?_, ?_, ?_, ?_, ?_, ?_, ?_, ?_, ?_, ?_⟩
      · rw [eo _ _ (by omega) (by omega) (by omega)]; exact k1
      · rw [eo _ _ (by omega) (by omega) (by omega)]; exact k2
      · rw [eo _ _ (by omega) (by omega) (by omega)]; exact k3
      · rw [eo _ _ (by omega) (by omega) (by omega)]; exact k4
      · rw [eA, if_pos ⟨rfl, rfl⟩]
      · rw [eo _ _ (by omega) (by omega) (by omega)]; exact k6
      · rw [eo _ _ (by omega) (by omega) (by omega)]; exact k7
      · rw [eA, if_neg (by omega), if_neg (by omega), if_pos ⟨rfl, rfl⟩]; rfl
      · rw [eo _ _ (by omega) (by omega) (by omega)]; exact k9
      · rw [eo _ _ (by omega) (by omega) (by omega)]; exact k10
      · rw [eo _ _ (by omega) (by omega) (by omega)]; exact k11
    · refine ⟨?_, ?_, ?_, ?_, ?_, ?_, ?_, ?_, b1, ?_, ?_, ?_, fun hs => ⟨?_, lfR_f (m13 hs).2 ?_ ?_ ?_⟩⟩
      · rw [b4 _ _ (by omega) (by omega) (by omega) (by omega)]; exact m1
      · rw [b4 _ _ (by omega) (by omega) (by omega) (by omega)]; exact m2
      · rw [b4 _ _ (by omega) (by omega) (by omega) (by omega)]; exact m3
      · rw [b4 _ _ (by omega) (by omega) (by omega) (by omega)]; exact m4
      · rw [b4 _ _ (by omega) (by omega) (by omega) (by omega)]; exact m5
      · rw [b4 _ _ (by omega) (by omega) (by omega) (by omega)]; exact m6
      · rw [b5 _ _ (by decide)]; exact m7
      · rw [b4 _ _ (by omega) (by omega) (by omega) (by omega)]; exact m8
      · rw [b4 _ _ (by omega) (by omega) (by omega) (by omega)]; exact m10
      · rw [b4 _ _ (by omega) (by omega) (by omega) (by omega)]; exact m11
      · rw [b5 _ _ (by decide)]; exact m12
      · rw [b5 _ _ (by decide)]; exact (m13 hs).1
      · exact b4 _ _ (by omega) (by omega) (by omega) (by omega)
      · exact b4 _ _ (by omega) (by omega) (by omega) (by omega)
      · exact b5 _ _ (by decide)
    · intro c hc
      obtain ⟨w, v1, v2, v3⟩ := hch c hc
      refine ⟨w, by rw [eo _ _ (by omega) (by omega) (by omega)]; exact v1, v2, ?_⟩
      intro i hi
      rw [eo _ _ (by omega) (by omega) (by omega), eo _ _ (by omega) (by omega) (by omega)]
      exact v3 i hi
