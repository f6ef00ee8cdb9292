/-! READING: names that are known -/
abbrev Nm : Type := Nat × Nat × Nat × Nat × Nat
def smB (tx : Nat → Nat) (w s p : Nat) : Bool := decide (∀ i, i < s → tx (p + i) = tx (w + i))
def hitB (tx : Nat → Nat) (w s : Nat) (q : Nm) : Bool := decide (q.2.2.1 = s) && smB tx w s q.2.1
def nsL (σ : Nat) (nl : List Nm) : List Nm := nl.filter (fun q => decide (q.1 = σ))
theorem find_sp {σ : Nat} {p : Nm → Bool} : ∀ nl : List Nm, (nsL σ nl).find? p = nl.find? (fun q => decide (q.1 = σ) && p q) := by
  intro nl
  unfold nsL
  induction nl with
  | nil => rfl
  | cons q nl ih =>
    rw [List.filter_cons, List.find?_cons]
    by_cases c : q.1 = σ
    · rw [if_pos (decide_eq_true c), List.find?_cons, decide_eq_true c, Bool.true_and, ih]
    · rw [if_neg (by rw [decide_eq_false c]; decide), decide_eq_false c, Bool.false_and, ih]
theorem find_dr {p : Nm → Bool} {l : List Nm} {j : Nat} (h : j < l.length) : (l.drop j).find? p = if p l[j] = true then some l[j] else (l.drop (j + 1)).find? p := by
  rw [List.drop_eq_getElem_cons h, List.find?_cons]
  cases p l[j] with
  | true => rw [if_pos rfl]
  | false => rw [if_neg (by decide)]
def NmC (A : mwM) (nl : List Nm) : Prop := A 1 3 = sI nl.length ∧ nl.length ≤ 600 ∧ ∀ i (h : i < nl.length), A 726 i = sI nl[i].1 ∧ A 727 i = sI nl[i].2.1 ∧ A 728 i = sI nl[i].2.2.1 ∧ A 729 i = sI nl[i].2.2.2.1 ∧ A 730 i = sI nl[i].2.2.2.2
def NmO (n : Nat) (nl : List Nm) : Prop := ∀ q, q ∈ nl → q.1 < 100 ∧ q.2.1 + q.2.2.1 ≤ n ∧ 1 ≤ q.2.2.1 ∧ q.2.2.2.1 < 10 ∧ q.2.2.2.2 < 1000
def NmM (M : mwM) (l : List Nm) : Prop := M 732 14 = sI l.length ∧ l.length ≤ 70 ∧ ∀ k (h : k < l.length), M 734 k = sI l[k].2.1 ∧ M 735 k = sI l[k].2.2.1 ∧ M 736 k = sI (l[k].2.2.2.1 + 1) ∧ M 737 k = sI l[k].2.2.2.2
def NmS (M : mwM) (x : Nat) (l : List Nm) : Prop := M 754 x = sI l.length ∧ l.length ≤ 200 ∧ ∀ k (h : k < l.length), M 755 (201 * x + k + 1) = sI l[k].2.1 ∧ M 756 (201 * x + k + 1) = sI l[k].2.2.1 ∧ l[k].2.2.2.1 = 4 ∧ l[k].2.2.2.2 = k + 1
def NmD (M : mwM) (x : Nat) (l : List Nm) : Prop := M 757 x = sI l.length ∧ l.length ≤ 32 ∧ ∀ k (h : k < l.length), M 758 (32 * x + k) = sI l[k].2.1 ∧ M 759 (32 * x + k) = sI l[k].2.2.1 ∧ l[k].2.2.2.1 = 5 ∧ l[k].2.2.2.2 = k
theorem c_isSame {fu n w s p : Nat} {tx : Nat → Nat} {A : mwM} {L : mwL} (hfu : 6100 ≤ fu) (hT : TxC A n tx) (h8 : A 1 8 = sI w) (h9 : A 1 9 = sI s) (hw : w + s ≤ n) (hp : p + s ≤ n) : DX8_isSame fu (sI p) A L = some (bI (smB tx w s p), A, L) := by
  have hn := hT.2.1
  have key : ∀ (r q j : Nat), j + r = s → r < q → (∀ i, i < j → tx (p + i) = tx (w + i)) → fX8_isSame_h2 fu (sI p) q (sI j, A, L) = some (bI (smB tx w s p), A, L) := by
    intro r
    induction r with
    | zero =>
      intro q j hj hq hs
      obtain ⟨q, rfl⟩ : ∃ y, q = y + 1 := ⟨q - 1, by omega⟩
      have : smB tx w s p = true := decide_eq_true (fun i hi => hs i (by omega))
      show fX8_isSame_i2 fu (sI p) (fX8_isSame_h2 fu (sI p) q) (sI j) A L = _
      unfold fX8_isSame_i2
      rw [h9, if_pos (show sI s ≤ sI j by rw [sI_le (by omega) (by omega)]; omega), this]
      rfl
    | succ r ih =>
      intro q j hj hq hs
      obtain ⟨q, rfl⟩ : ∃ y, q = y + 1 := ⟨q - 1, by omega⟩
      obtain ⟨u1, u2, u3⟩ := hT.2.2 (w + j) (by omega)
      obtain ⟨v1, v2, v3⟩ := hT.2.2 (p + j) (by omega)
      show fX8_isSame_i2 fu (sI p) (fX8_isSame_h2 fu (sI p) q) (sI j) A L = _
      unfold fX8_isSame_i2
      rw [h9, if_neg (show ¬ sI s ≤ sI j by rw [sI_le (by omega) (by omega)]; omega), sI_add, mck_s (by omega) (by omega), h8, sI_add, mck_s (by omega) (by omega), sI_nn (by omega), sI_nn (by omega), v1, u1]
      by_cases c : tx (p + j) = tx (w + j)
      · rw [if_pos (by rw [c]), mlet_e, sI_1]
        refine ih q (j + 1) (by omega) (by omega) (fun i hi => ?_)
        by_cases ee : i = j
        · rw [ee]; exact c
        · exact hs i (by omega)
      · have : smB tx w s p = false := decide_eq_false (fun z => c (z j (by omega)))
        rw [if_neg (show ¬ sI (tx (p + j)) = sI (tx (w + j)) by rw [sI_eq (by omega) (by omega)]; exact c), this]
        rfl
  exact key s fu 0 (by omega) (by omega) (fun i hi => by omega)
theorem m_same {fu n w e p z : Nat} {tx : Nat → Nat} {M : mwM} {L : mwL} (hfu : 6100 ≤ fu) (hT : TxM M n tx) (h9 : M 732 9 = sI w) (h10 : M 732 10 = sI e) (hw : w < e) (he : e ≤ n) (hp : p + z ≤ n) (hz : 1 ≤ z) : DX19_same fu (sI p) (sI z) M L = some (bI (decide (z = e - w) && smB tx w (e - w) p), M, L) := by
  have hn := hT.2.1
  unfold DX19_same fX19_same_b18
  rw [h9, h10, sI_sub (by omega)]
  by_cases c : z = e - w
  · subst c
    rw [if_pos rfl, decide_eq_true rfl, Bool.true_and]
    have key : ∀ (r q j : Nat), j + r = e - w → r < q → (∀ i, i < j → tx (p + i) = tx (w + i)) → fX19_same_h22 fu (sI p) (sI (e - w)) q (1, sI j, M, L) = some (bI (smB tx w (e - w) p), M, L) := by
      intro r
      induction r with
      | zero =>
        intro q j hj hq hs
        obtain ⟨q, rfl⟩ : ∃ y, q = y + 1 := ⟨q - 1, by omega⟩
        have : smB tx w (e - w) p = true := decide_eq_true (fun i hi => hs i (by omega))
        show fX19_same_i22 fu (sI p) (sI (e - w)) (fX19_same_h22 fu (sI p) (sI (e - w)) q) 1 (sI j) M L = _
        unfold fX19_same_i22 fX19_same_b68
        rw [if_pos (show sI (e - w) ≤ sI j by rw [sI_le (by omega) (by omega)]; omega), this]
        rfl
      | succ r ih =>
        intro q j hj hq hs
        obtain ⟨q, rfl⟩ : ∃ y, q = y + 1 := ⟨q - 1, by omega⟩
        obtain ⟨q, rfl⟩ : ∃ y, q = y + 1 := ⟨q - 1, by omega⟩
        obtain ⟨u1, u2, u3⟩ := hT.2.2 (w + j) (by omega)
        obtain ⟨v1, v2, v3⟩ := hT.2.2 (p + j) (by omega)
        have nx := ih (q + 1) (j + 1) (by omega) (by omega)
        have nf : fX19_same_h22 fu (sI p) (sI (e - w)) (q + 1) (0, sI (j + 1), M, L) = some (0, M, L) := by
          show fX19_same_i22 fu (sI p) (sI (e - w)) (fX19_same_h22 fu (sI p) (sI (e - w)) q) 0 (sI (j + 1)) M L = _
          unfold fX19_same_i22 fX19_same_b68
          rw [if_pos (show (0 : Int32) = 0 from rfl)]
          split <;> rfl
        show fX19_same_i22 fu (sI p) (sI (e - w)) (fX19_same_h22 fu (sI p) (sI (e - w)) (q + 1)) 1 (sI j) M L = _
        generalize hH : fX19_same_h22 fu (sI p) (sI (e - w)) (q + 1) = H at nx nf
        unfold fX19_same_i22 fX19_same_b61
        rw [if_neg (show ¬ sI (e - w) ≤ sI j by rw [sI_le (by omega) (by omega)]; omega), if_neg (show ¬ (1 : Int32) = 0 by decide), h9, sI_add, mck_s (by omega) (by omega), sI_add, mck_s (by omega) (by omega), sI_nn (by omega), sI_nn (by omega), v1, u1, mlet_e, mlet_e, sI_1]
        by_cases c : tx (p + j) = tx (w + j)
        · rw [if_pos (by rw [c])]
          refine nx (fun i hi => ?_)
          by_cases ee : i = j
          · rw [ee]; exact c
          · exact hs i (by omega)
        · have : smB tx w (e - w) p = false := decide_eq_false (fun z => c (z j (by omega)))
          rw [if_neg (show ¬ sI (tx (w + j)) = sI (tx (p + j)) by rw [sI_eq (by omega) (by omega)]; exact fun z => c z.symm), this]
          exact nf
    exact key (e - w) fu 0 (by omega) (by omega) (fun i hi => by omega)
  · rw [if_neg (show ¬ sI (e - w) = sI z by rw [sI_eq (by omega) (by omega)]; exact fun y => c y.symm), decide_eq_false c, Bool.false_and]
    obtain ⟨q, hq⟩ : ∃ q, fu = q + 1 := ⟨fu - 1, by omega⟩
    rw [show fX19_same_h22 fu (sI p) (sI z) fu (0, 0, M, L) = fX19_same_h22 fu (sI p) (sI z) (q + 1) (0, 0, M, L) by rw [← hq]]
    show fX19_same_i22 fu (sI p) (sI z) (fX19_same_h22 fu (sI p) (sI z) q) 0 0 M L = _
    unfold fX19_same_i22 fX19_same_b68
    rw [if_pos (show (0 : Int32) = 0 from rfl)]
    split <;> rfl
/-- what a name means -/
theorem c_findName {fu n w s σ : Nat} {tx : Nat → Nat} {nl : List Nm} {A : mwM} {L : mwL} (hfu : 6100 ≤ fu) (hT : TxC A n tx) (h8 : A 1 8 = sI w) (h9 : A 1 9 = sI s) (hw : w + s ≤ n) (hN : NmC A nl) (hO : NmO n nl) (hσ : σ < 100) : ∃ r, DX8_findName fu (sI σ) A L = some (r, A, L) ∧ ((r = -1 ∧ (nsL σ nl).find? (hitB tx w s) = none) ∨ ∃ i, ∃ h : i < nl.length, r = sI i ∧ (nsL σ nl).find? (hitB tx w s) = some nl[i]) := by
  have hn := hT.2.1
  obtain ⟨n1, n2, n3⟩ := hN
  rw [find_sp]
  have key : ∀ (r q j : Nat), j + r = nl.length → r < q → ∃ v, fX8_findName_h2 fu (sI σ) q (sI j, A, L) = some (v, A, L) ∧ ((v = -1 ∧ (nl.drop j).find? (fun q => decide (q.1 = σ) && hitB tx w s q) = none) ∨ ∃ i, ∃ h : i < nl.length, v = sI i ∧ (nl.drop j).find? (fun q => decide (q.1 = σ) && hitB tx w s q) = some nl[i]) := by
    intro r
    induction r with
    | zero =>
      intro q j hj hq
      obtain ⟨q, rfl⟩ : ∃ y, q = y + 1 := ⟨q - 1, by omega⟩
      refine ⟨-1, ?_, Or.inl ⟨rfl, ?_⟩⟩
      · show fX8_findName_i2 fu (sI σ) (fX8_findName_h2 fu (sI σ) q) (sI j) A L = _
        unfold fX8_findName_i2
        rw [n1, if_pos (show sI nl.length ≤ sI j by rw [sI_le (by omega) (by omega)]; omega)]
      · rw [List.drop_eq_nil_of_le (by omega)]
        rfl
    | succ r ih =>
      intro q j hj hq
      obtain ⟨q, rfl⟩ : ∃ y, q = y + 1 := ⟨q - 1, by omega⟩
      have hjl : j < nl.length := by omega
      obtain ⟨a1, a2, a3, _⟩ := n3 j hjl
      obtain ⟨o1, o2, o3, _⟩ := hO nl[j] (List.getElem_mem _)
      obtain ⟨v, x1, x2⟩ := ih q (j + 1) (by omega) (by omega)
      rw [find_dr hjl]
      show ∃ v, fX8_findName_i2 fu (sI σ) (fX8_findName_h2 fu (sI σ) q) (sI j) A L = _ ∧ _
      generalize hH : fX8_findName_h2 fu (sI σ) q = H at x1
      unfold fX8_findName_i2 fX8_findName_b54
      rw [n1, if_neg (show ¬ sI nl.length ≤ sI j by rw [sI_le (by omega) (by omega)]; omega), mck_s (by omega) (by omega), mck_s (by omega) (by omega), mck_s (by omega) (by omega), sI_nn (by omega), a1, a2, a3, h9, mlet_e, sI_1]
      by_cases c1 : nl[j].1 = σ
      · rw [if_pos (show sI nl[j].1 = sI σ by rw [c1])]
        by_cases c2 : nl[j].2.2.1 = s
        · rw [if_pos (show sI nl[j].2.2.1 = sI s by rw [c2]), c_isSame hfu hT h8 h9 hw (by omega), mb3_s]
          cases hb : smB tx w s nl[j].2.1 with
          | true =>
            rw [bI_t, if_neg (show ¬ (1 : Int32) = 0 by decide), if_pos (by unfold hitB; rw [decide_eq_true c1, decide_eq_true c2, hb]; rfl)]
            exact ⟨sI j, rfl, Or.inr ⟨j, hjl, rfl, rfl⟩⟩
          | false =>
            rw [bI_f, if_pos (show (0 : Int32) = 0 from rfl), mlet_e, if_neg (by unfold hitB; rw [hb, Bool.and_false, Bool.and_false]; decide)]
            exact ⟨v, x1, x2⟩
        · rw [if_neg (show ¬ sI nl[j].2.2.1 = sI s by rw [sI_eq (by omega) (by omega)]; exact c2), if_neg (by unfold hitB; rw [decide_eq_false c2, Bool.false_and, Bool.and_false]; decide)]
          exact ⟨v, x1, x2⟩
      · rw [if_neg (show ¬ sI nl[j].1 = sI σ by rw [sI_eq (by omega) (by omega)]; exact c1), if_neg (by rw [decide_eq_false c1, Bool.false_and]; decide)]
        exact ⟨v, x1, x2⟩
  exact key nl.length fu 0 (by omega) (by omega)
