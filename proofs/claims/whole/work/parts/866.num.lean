/-! READING: numbers of the reference; a number must come -/
theorem m_isNumber {fu n w e : Nat} {tx : Nat → Nat} {M : mwM} {L : mwL} (hfu : 6100 ≤ fu) (hT : TxM M n tx) (h9 : M 732 9 = sI w) (h10 : M 732 10 = sI e) (hw : w < e) (he : e ≤ n) : DX19_isNumber fu M L = some (bI (nuB tx w (e - w)), mset M 732 13 (if nuB tx w (e - w) = true then nuV tx w (e - w) else 0), L) := by
  have hn := hT.2.1
  obtain ⟨t1, t2, t3⟩ := hT.2.2 w (by omega)
  obtain ⟨g, hg⟩ : ∃ g, g = sgN tx w := ⟨_, rfl⟩
  have hg1 : g ≤ 1 := by rw [hg]; unfold sgN; split <;> omega
  have hgc : g = 1 ↔ tx w = 45 := by
    rw [hg]; unfold sgN
    by_cases c : tx w = 45
    · rw [if_pos c]; exact ⟨fun _ => c, fun _ => rfl⟩
    · rw [if_neg c]; exact ⟨fun z => by omega, fun z => absurd z c⟩
  -- the end
  have b137 : ∀ (v2 : Bool) (N : Int32) (B : mwM), B = mset M 732 13 N → fX19_isNumber_b137 fu (sI (w + g)) (bI v2) B L = some (bI v2, mset M 732 13 (if tx w = 45 then -N else N), L) := by
    intro v2 N B hB
    subst hB
    unfold fX19_isNumber_b137 fX19_isNumber_b158
    rw [mset_n (show ¬ (732 = 732 ∧ 9 = 13) by omega), mset_s, h9, mlet_e, mlet_e, mset_ii, mset_ii]
    by_cases c : tx w = 45
    · have := hgc.mpr c
      rw [if_neg (show ¬ sI (w + g) ≤ sI w by rw [sI_le (by omega) (by omega)]; omega), if_pos c]
      cases v2 <;> rfl
    · have : g = 0 := by
        have := fun z => c (hgc.mp z)
        omega
      rw [if_pos (show sI (w + g) ≤ sI w by rw [sI_le (by omega) (by omega)]; omega), if_neg c]
      cases v2 <;> rfl
  -- the number, if it is none
  have hF : nuB tx w (e - w) = false → ∀ q, 0 < q → fX19_isNumber_h98 fu q (sI (w + g), 0, sI (w + g), mset M 732 13 0, L) = some (bI (nuB tx w (e - w)), mset M 732 13 (if nuB tx w (e - w) = true then nuV tx w (e - w) else 0), L) := by
    intro hb q hq
    obtain ⟨q, rfl⟩ : ∃ y, q = y + 1 := ⟨q - 1, by omega⟩
    have z := b137 false 0 _ rfl
    show fX19_isNumber_i98 fu (fX19_isNumber_h98 fu q) (sI (w + g)) 0 (sI (w + g)) (mset M 732 13 0) L = _
    unfold fX19_isNumber_i98
    rw [if_pos (show (0 : Int32) = 0 from rfl), hb, if_neg (show ¬ false = true by decide)]
    have z2 : (if tx w = 45 then -(0 : Int32) else 0) = 0 := by split <;> decide
    rw [z2] at z
    by_cases c : (mset M 732 13 0) 732 10 ≤ sI (w + g)
    · rw [if_pos c]; exact z
    · rw [if_neg c]; exact z
  -- the number
  have hV : nuB tx w (e - w) = true → ∀ (r q m : Nat), w + g + m + r = e → r < q → fX19_isNumber_h98 fu q (sI (w + g), 1, sI (w + g + m), mset M 732 13 (sI (hvN tx (w + g) m)), L) = some (bI (nuB tx w (e - w)), mset M 732 13 (if nuB tx w (e - w) = true then nuV tx w (e - w) else 0), L) := by
    intro hb r
    obtain ⟨d1, d2, d3⟩ := of_decide_eq_true hb
    rw [← hg] at d1 d2 d3
    induction r with
    | zero =>
      intro q m hm hq
      obtain ⟨q, rfl⟩ : ∃ y, q = y + 1 := ⟨q - 1, by omega⟩
      have z := b137 true (sI (hvN tx (w + g) m)) _ rfl
      show fX19_isNumber_i98 fu (fX19_isNumber_h98 fu q) (sI (w + g)) 1 (sI (w + g + m)) (mset M 732 13 (sI (hvN tx (w + g) m))) L = _
      unfold fX19_isNumber_i98
      rw [mset_n (show ¬ (732 = 732 ∧ 10 = 13) by omega), h10, if_pos (show sI e ≤ sI (w + g + m) by rw [sI_le (by omega) (by omega)]; omega), hb, if_pos rfl]
      unfold nuV
      rw [← hg, show e - w - g = m from by omega]
      exact z
    | succ r ih =>
      intro q m hm hq
      obtain ⟨q, rfl⟩ : ∃ y, q = y + 1 := ⟨q - 1, by omega⟩
      obtain ⟨u1, u2, u3⟩ := hT.2.2 (w + g + m) (by omega)
      have hd := of_decide_eq_true (d3 m (by omega))
      have nx := ih q (m + 1) (by omega) (by omega)
      show fX19_isNumber_i98 fu (fX19_isNumber_h98 fu q) (sI (w + g)) 1 (sI (w + g + m)) (mset M 732 13 (sI (hvN tx (w + g) m))) L = _
      generalize hH : fX19_isNumber_h98 fu q = H at nx
      unfold fX19_isNumber_i98
      rw [mset_n (show ¬ (732 = 732 ∧ 10 = 13) by omega), h10, if_neg (show ¬ sI e ≤ sI (w + g + m) by rw [sI_le (by omega) (by omega)]; omega), if_neg (show ¬ (1 : Int32) = 0 by decide), mck_s (by omega) (by omega), sI_nn (by omega), mset_s, mset_n (show ¬ (733 = 732 ∧ w + g + m = 13) by omega), u1, mlet_e, mlet_e, mset_ii, sI_1, show (10 : Int32) * sI (hvN tx (w + g) m) = sI (10 * hvN tx (w + g) m) from sI_lml, sI_add, show sI (10 * hvN tx (w + g) m + tx (w + g + m)) - 48 = sI (10 * hvN tx (w + g) m + tx (w + g + m) - 48) from sI_sub (b := 48) (by omega), show 10 * hvN tx (w + g) m + tx (w + g + m) - 48 = hvN tx (w + g) (m + 1) from by
        show _ = 10 * hvN tx (w + g) m + (tx (w + g + m) - 48)
        omega]
      exact nx
  -- are all digits?
  have kF : nuB tx w (e - w) = false → ∀ (r q i : Nat), i + r = e ∨ (e ≤ i ∧ r = 0) → r < q → fX19_isNumber_h55 fu q (sI (w + g), 0, sI i, M, L) = some (bI (nuB tx w (e - w)), mset M 732 13 (if nuB tx w (e - w) = true then nuV tx w (e - w) else 0), L) ∨ 6001 < i := by
    intro hb r
    induction r with
    | zero =>
      intro q i hi hq
      obtain ⟨q, rfl⟩ : ∃ y, q = y + 1 := ⟨q - 1, by omega⟩
      by_cases ci : 6001 < i
      · exact Or.inr ci
      · left
        show fX19_isNumber_i55 fu (fX19_isNumber_h55 fu q) (sI (w + g)) 0 (sI i) M L = _
        unfold fX19_isNumber_i55
        rw [h10, if_pos (show sI e ≤ sI i by rw [sI_le (by omega) (by omega)]; omega), mlet_e]
        exact hF hb fu (by omega)
    | succ r ih =>
      intro q i hi hq
      obtain ⟨q, rfl⟩ : ∃ y, q = y + 1 := ⟨q - 1, by omega⟩
      left
      have nx := (ih q (i + 1) (by omega) (by omega)).resolve_right (by omega)
      show fX19_isNumber_i55 fu (fX19_isNumber_h55 fu q) (sI (w + g)) 0 (sI i) M L = _
      generalize hH : fX19_isNumber_h55 fu q = H at nx
      unfold fX19_isNumber_i55 fX19_isNumber_b83 fX19_isNumber_b84
      rw [h10, if_neg (show ¬ sI e ≤ sI i by rw [sI_le (by omega) (by omega)]; omega), if_pos (show (0 : Int32) = 0 from rfl), mlet_e, sI_1]
      exact nx
  have kT : g < e - w → e - w - g ≤ 9 → ∀ (r q m : Nat), w + g + m + r = e → r < q → (∀ j, j < m → dgt (tx (w + g + j)) = true) → fX19_isNumber_h55 fu q (sI (w + g), 1, sI (w + g + m), M, L) = some (bI (nuB tx w (e - w)), mset M 732 13 (if nuB tx w (e - w) = true then nuV tx w (e - w) else 0), L) := by
    intro g1 g2 r
    induction r with
    | zero =>
      intro q m hm hq hp
      obtain ⟨q, rfl⟩ : ∃ y, q = y + 1 := ⟨q - 1, by omega⟩
      have hb : nuB tx w (e - w) = true := decide_eq_true (by rw [← hg]; exact ⟨g1, g2, fun i hi => hp i (by omega)⟩)
      show fX19_isNumber_i55 fu (fX19_isNumber_h55 fu q) (sI (w + g)) 1 (sI (w + g + m)) M L = _
      unfold fX19_isNumber_i55
      rw [h10, if_pos (show sI e ≤ sI (w + g + m) by rw [sI_le (by omega) (by omega)]; omega), mlet_e]
      exact hV hb (e - (w + g)) fu 0 (by omega) (by omega)
    | succ r ih =>
      intro q m hm hq hp
      obtain ⟨q, rfl⟩ : ∃ y, q = y + 1 := ⟨q - 1, by omega⟩
      obtain ⟨u1, u2, u3⟩ := hT.2.2 (w + g + m) (by omega)
      have nx : dgt (tx (w + g + m)) = true → _ := fun hz => ih q (m + 1) (by omega) (by omega) (fun j hj => by
        by_cases ee : j = m
        · rw [ee]; exact hz
        · exact hp j (by omega))
      have nf : dgt (tx (w + g + m)) = false → _ := fun hz => (kF (decide_eq_false (fun z => by rw [← hg] at z; have := z.2.2 m (by omega); rw [hz] at this; exact absurd this (by decide))) r q (w + g + m + 1) (by omega) (by omega)).resolve_right (by omega)
      show fX19_isNumber_i55 fu (fX19_isNumber_h55 fu q) (sI (w + g)) 1 (sI (w + g + m)) M L = _
      generalize hH : fX19_isNumber_h55 fu q = H at nx nf
      unfold fX19_isNumber_i55 fX19_isNumber_b83 fX19_isNumber_b84
      rw [h10, if_neg (show ¬ sI e ≤ sI (w + g + m) by rw [sI_le (by omega) (by omega)]; omega), if_neg (show ¬ (1 : Int32) = 0 by decide), mck_s (by omega) (by omega), sI_nn (by omega), u1, m_digit u3, mb3_s]
      cases hd : dgt (tx (w + g + m)) with
      | true =>
        rw [bI_t, if_neg (show ¬ (1 : Int32) = 0 by decide), mlet_e, sI_1]
        exact nx hd
      | false =>
        rw [bI_f, if_pos (show (0 : Int32) = 0 from rfl), mlet_e, sI_1]
        exact nf hd
  have b27 : fX19_isNumber_b27 fu (sI (w + g)) M L = some (bI (nuB tx w (e - w)), mset M 732 13 (if nuB tx w (e - w) = true then nuV tx w (e - w) else 0), L) := by
    unfold fX19_isNumber_b27 fX19_isNumber_b51 fX19_isNumber_b52
    rw [h10]
    by_cases c1 : e ≤ w + g
    · rw [if_pos (show sI e ≤ sI (w + g) by rw [sI_le (by omega) (by omega)]; exact c1)]
      exact (kF (decide_eq_false (by rw [← hg]; omega)) 0 fu (w + g) (by omega) (by omega)).resolve_right (by omega)
    · rw [if_neg (show ¬ sI e ≤ sI (w + g) by rw [sI_le (by omega) (by omega)]; exact c1), sI_sub (by omega)]
      by_cases c2 : 9 < e - (w + g)
      · rw [if_pos (show 9 < sI (e - (w + g)) by rw [show (9 : Int32) = sI 9 from rfl, sI_lt (by omega) (by omega)]; exact c2)]
        exact (kF (decide_eq_false (by rw [← hg]; omega)) (e - (w + g)) fu (w + g) (by omega) (by omega)).resolve_right (by omega)
      · rw [if_neg (show ¬ 9 < sI (e - (w + g)) by rw [show (9 : Int32) = sI 9 from rfl, sI_lt (by omega) (by omega)]; exact c2)]
        exact kT (by omega) (by omega) (e - (w + g)) fu 0 (by omega) (by omega) (fun j hj => by omega)
  rw [← b27]
  unfold DX19_isNumber
  rw [h9, mck_s (by omega) (by omega), sI_nn (by omega), t1]
  by_cases c : tx w = 45
  · rw [if_pos (show sI (tx w) = 45 by rw [c]; rfl), hgc.mpr c, sI_1]
  · have : g = 0 := by
      have := fun z => c (hgc.mp z)
      omega
    rw [if_neg (show ¬ sI (tx w) = 45 by rw [sI_45 t3]; exact c), this]
    rfl
