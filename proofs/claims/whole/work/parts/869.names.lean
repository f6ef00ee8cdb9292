/-! READING: names that the reference knows -/
theorem NmO_s {n σ : Nat} {nl : List Nm} (h : NmO n nl) : NmO n (nsL σ nl) := fun q hq => h q (List.mem_filter.mp hq).1
theorem ns_m {σ : Nat} {nl : List Nm} {q : Nm} (h : q ∈ nsL σ nl) : q ∈ nl ∧ q.1 = σ := by
  obtain ⟨h1, h2⟩ := List.mem_filter.mp h
  exact ⟨h1, of_decide_eq_true h2⟩
theorem m_findName {fu n w e : Nat} {tx : Nat → Nat} {l : List Nm} {M : mwM} {L : mwL} (hfu : 6100 ≤ fu) (hT : TxM M n tx) (h9 : M 732 9 = sI w) (h10 : M 732 10 = sI e) (hw : w < e) (he : e ≤ n) (hN : NmM M l) (hO : NmO n l) : ∃ r, DX19_findName fu M L = some (r, M, L) ∧ ((r = -1 ∧ l.find? (hitB tx w (e - w)) = none) ∨ ∃ i, ∃ h : i < l.length, r = sI i ∧ l.find? (hitB tx w (e - w)) = some l[i]) := by
  have hn := hT.2.1
  obtain ⟨n1, n2, n3⟩ := hN
  have key : ∀ (r q j : Nat), j + r = l.length → r < q → ∃ v, fX19_findName_h2 fu q (sI j, M, L) = some (v, M, L) ∧ ((v = -1 ∧ (l.drop j).find? (hitB tx w (e - w)) = none) ∨ ∃ i, ∃ h : i < l.length, v = sI i ∧ (l.drop j).find? (hitB tx w (e - w)) = some l[i]) := by
    intro r
    induction r with
    | zero =>
      intro q j hj hq
      obtain ⟨q, rfl⟩ : ∃ y, q = y + 1 := ⟨q - 1, by omega⟩
      refine ⟨-1, ?_, Or.inl ⟨rfl, ?_⟩⟩
      · show fX19_findName_i2 fu (fX19_findName_h2 fu q) (sI j) M L = _
        unfold fX19_findName_i2
        rw [n1, if_pos (show sI l.length ≤ sI j by rw [sI_le (by omega) (by omega)]; omega)]
      · rw [List.drop_eq_nil_of_le (by omega)]
        rfl
    | succ r ih =>
      intro q j hj hq
      obtain ⟨q, rfl⟩ : ∃ y, q = y + 1 := ⟨q - 1, by omega⟩
      have hjl : j < l.length := by omega
      obtain ⟨a1, a2, _⟩ := n3 j hjl
      obtain ⟨o1, o2, o3, _⟩ := hO l[j] (List.getElem_mem _)
      obtain ⟨v, x1, x2⟩ := ih q (j + 1) (by omega) (by omega)
      rw [find_dr hjl]
      show ∃ v, fX19_findName_i2 fu (fX19_findName_h2 fu q) (sI j) M L = _ ∧ _
      generalize hH : fX19_findName_h2 fu q = H at x1
      unfold fX19_findName_i2
      rw [n1, if_neg (show ¬ sI l.length ≤ sI j by rw [sI_le (by omega) (by omega)]; omega), mck_s (by omega) (by omega), mck_s (by omega) (by omega), sI_nn (by omega), a1, a2, m_same hfu hT h9 h10 hw he o2 o3, mb3_s, mlet_e, sI_1]
      cases hb : hitB tx w (e - w) l[j] with
      | true =>
        rw [show (decide (l[j].2.2.1 = e - w) && smB tx w (e - w) l[j].2.1) = true from hb, bI_t, if_neg (show ¬ (1 : Int32) = 0 by decide), if_pos rfl]
        exact ⟨sI j, rfl, Or.inr ⟨j, hjl, rfl, rfl⟩⟩
      | false =>
        rw [show (decide (l[j].2.2.1 = e - w) && smB tx w (e - w) l[j].2.1) = false from hb, bI_f, if_pos (show (0 : Int32) = 0 from rfl), if_neg (show ¬ false = true by decide)]
        exact ⟨v, x1, x2⟩
  exact key l.length fu 0 (by omega) (by omega)
theorem m_findState {fu n w e x : Nat} {tx : Nat → Nat} {l : List Nm} {M : mwM} {L : mwL} (hfu : 6100 ≤ fu) (hT : TxM M n tx) (h9 : M 732 9 = sI w) (h10 : M 732 10 = sI e) (hw : w < e) (he : e ≤ n) (hx : x < 12) (hN : NmS M x l) (hO : NmO n l) : ∃ r, DX19_findState fu (sI x) M L = some (r, M, L) ∧ ((r = -1 ∧ l.find? (hitB tx w (e - w)) = none) ∨ ∃ i, ∃ h : i < l.length, r = sI (i + 1) ∧ l.find? (hitB tx w (e - w)) = some l[i]) := by
  have hn := hT.2.1
  obtain ⟨n1, n2, n3⟩ := hN
  have key : ∀ (r q j : Nat), j + r = l.length → r < q → ∃ v, fX19_findState_h2 fu (sI x) q (sI (j + 1), M, L) = some (v, M, L) ∧ ((v = -1 ∧ (l.drop j).find? (hitB tx w (e - w)) = none) ∨ ∃ i, ∃ h : i < l.length, v = sI (i + 1) ∧ (l.drop j).find? (hitB tx w (e - w)) = some l[i]) := by
    intro r
    induction r with
    | zero =>
      intro q j hj hq
      obtain ⟨q, rfl⟩ : ∃ y, q = y + 1 := ⟨q - 1, by omega⟩
      refine ⟨-1, ?_, Or.inl ⟨rfl, ?_⟩⟩
      · show fX19_findState_i2 fu (sI x) (fX19_findState_h2 fu (sI x) q) (sI (j + 1)) M L = _
        unfold fX19_findState_i2
        rw [mck_s (by omega) (by omega), sI_nn (by omega), n1, if_pos (show sI l.length < sI (j + 1) by rw [sI_lt (by omega) (by omega)]; omega)]
      · rw [List.drop_eq_nil_of_le (by omega)]
        rfl
    | succ r ih =>
      intro q j hj hq
      obtain ⟨q, rfl⟩ : ∃ y, q = y + 1 := ⟨q - 1, by omega⟩
      have hjl : j < l.length := by omega
      obtain ⟨a1, a2, _⟩ := n3 j hjl
      obtain ⟨o1, o2, o3, _⟩ := hO l[j] (List.getElem_mem _)
      obtain ⟨v, x1, x2⟩ := ih q (j + 1) (by omega) (by omega)
      rw [find_dr hjl]
      show ∃ v, fX19_findState_i2 fu (sI x) (fX19_findState_h2 fu (sI x) q) (sI (j + 1)) M L = _ ∧ _
      generalize hH : fX19_findState_h2 fu (sI x) q = H at x1
      unfold fX19_findState_i2
      rw [mck_s (by omega) (by omega), sI_nn (show x < 2000000000 by omega), n1, if_neg (show ¬ sI l.length < sI (j + 1) by rw [sI_lt (by omega) (by omega)]; omega), show (201 : Int32) * sI x = sI (201 * x) from sI_lml, sI_add, mck_s (by omega) (by omega), mck_s (by omega) (by omega), sI_nn (by omega), show 201 * x + (j + 1) = 201 * x + j + 1 from rfl, a1, a2, m_same hfu hT h9 h10 hw he o2 o3, mb3_s, mlet_e, sI_1]
      cases hb : hitB tx w (e - w) l[j] with
      | true =>
        rw [show (decide (l[j].2.2.1 = e - w) && smB tx w (e - w) l[j].2.1) = true from hb, bI_t, if_neg (show ¬ (1 : Int32) = 0 by decide), if_pos rfl]
        exact ⟨sI (j + 1), rfl, Or.inr ⟨j, hjl, rfl, rfl⟩⟩
      | false =>
        rw [show (decide (l[j].2.2.1 = e - w) && smB tx w (e - w) l[j].2.1) = false from hb, bI_f, if_pos (show (0 : Int32) = 0 from rfl), if_neg (show ¬ false = true by decide)]
        exact ⟨v, x1, x2⟩
  exact key l.length fu 0 (by omega) (by omega)
theorem m_findDatum {fu n w e x : Nat} {tx : Nat → Nat} {l : List Nm} {M : mwM} {L : mwL} (hfu : 6100 ≤ fu) (hT : TxM M n tx) (h9 : M 732 9 = sI w) (h10 : M 732 10 = sI e) (hw : w < e) (he : e ≤ n) (hx : x < 12) (hN : NmD M x l) (hO : NmO n l) : ∃ r, DX19_findDatum fu (sI x) M L = some (r, M, L) ∧ ((r = -1 ∧ l.find? (hitB tx w (e - w)) = none) ∨ ∃ i, ∃ h : i < l.length, r = sI i ∧ l.find? (hitB tx w (e - w)) = some l[i]) := by
  have hn := hT.2.1
  obtain ⟨n1, n2, n3⟩ := hN
  have key : ∀ (r q j : Nat), j + r = l.length → r < q → ∃ v, fX19_findDatum_h2 fu (sI x) q (sI j, M, L) = some (v, M, L) ∧ ((v = -1 ∧ (l.drop j).find? (hitB tx w (e - w)) = none) ∨ ∃ i, ∃ h : i < l.length, v = sI i ∧ (l.drop j).find? (hitB tx w (e - w)) = some l[i]) := by
    intro r
    induction r with
    | zero =>
      intro q j hj hq
      obtain ⟨q, rfl⟩ : ∃ y, q = y + 1 := ⟨q - 1, by omega⟩
      refine ⟨-1, ?_, Or.inl ⟨rfl, ?_⟩⟩
      · show fX19_findDatum_i2 fu (sI x) (fX19_findDatum_h2 fu (sI x) q) (sI j) M L = _
        unfold fX19_findDatum_i2
        rw [mck_s (by omega) (by omega), sI_nn (by omega), n1, if_pos (show sI l.length ≤ sI j by rw [sI_le (by omega) (by omega)]; omega)]
      · rw [List.drop_eq_nil_of_le (by omega)]
        rfl
    | succ r ih =>
      intro q j hj hq
      obtain ⟨q, rfl⟩ : ∃ y, q = y + 1 := ⟨q - 1, by omega⟩
      have hjl : j < l.length := by omega
      obtain ⟨a1, a2, _⟩ := n3 j hjl
      obtain ⟨o1, o2, o3, _⟩ := hO l[j] (List.getElem_mem _)
      obtain ⟨v, x1, x2⟩ := ih q (j + 1) (by omega) (by omega)
      rw [find_dr hjl]
      show ∃ v, fX19_findDatum_i2 fu (sI x) (fX19_findDatum_h2 fu (sI x) q) (sI j) M L = _ ∧ _
      generalize hH : fX19_findDatum_h2 fu (sI x) q = H at x1
      unfold fX19_findDatum_i2
      rw [mck_s (by omega) (by omega), sI_nn (show x < 2000000000 by omega), n1, if_neg (show ¬ sI l.length ≤ sI j by rw [sI_le (by omega) (by omega)]; omega), show (32 : Int32) * sI x = sI (32 * x) from sI_lml, sI_add, mck_s (by omega) (by omega), mck_s (by omega) (by omega), sI_nn (by omega), a1, a2, m_same hfu hT h9 h10 hw he o2 o3, mb3_s, mlet_e, sI_1]
      cases hb : hitB tx w (e - w) l[j] with
      | true =>
        rw [show (decide (l[j].2.2.1 = e - w) && smB tx w (e - w) l[j].2.1) = true from hb, bI_t, if_neg (show ¬ (1 : Int32) = 0 by decide), if_pos rfl]
        exact ⟨sI j, rfl, Or.inr ⟨j, hjl, rfl, rfl⟩⟩
      | false =>
        rw [show (decide (l[j].2.2.1 = e - w) && smB tx w (e - w) l[j].2.1) = false from hb, bI_f, if_pos (show (0 : Int32) = 0 from rfl), if_neg (show ¬ false = true by decide)]
        exact ⟨v, x1, x2⟩
  exact key l.length fu 0 (by omega) (by omega)
