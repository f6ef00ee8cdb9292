/-! the memory in its order -/
theorem before_k {N : Nat} {l : List Nat} {sd : Nat → Nat} (hl : ∀ x ∈ l, x < N) (hs : l.Pairwise (fun x y => sd x < sd y)) (hS0 : ∀ i, i < N → (0 < sd i ↔ i ∈ l)) (k : Nat) (hk : k < l.length) : cnt (fun e => decide (0 < sd e ∧ sd e < sd (l[k]'hk))) N = k := by
  have hsg := List.pairwise_iff_getElem.mp hs
  have hnd := oke_nodup hs
  have e : (l.take k).length = k := by rw [List.length_take]; omega
  rw [cnt_list (l := l.take k) (hnd.sublist (List.take_sublist k l)) (fun x hx => hl x (List.mem_of_mem_take hx)) ?_, e]
  intro i hi
  rw [decide_eq_true_iff]
  constructor
  · rintro ⟨h1, h2⟩
    obtain ⟨m, hm, hme⟩ := List.getElem_of_mem ((hS0 i hi).mp h1)
    have hmk : m < k := by
      rcases Nat.lt_trichotomy m k with h | h | h
      · exact h
      · subst h; rw [hme] at h2; omega
      · have := hsg k m hk hm h; rw [hme] at this; omega
    rw [List.mem_take_iff_getElem]
    exact ⟨m, by omega, hme⟩
  · intro h
    rw [List.mem_take_iff_getElem] at h
    obtain ⟨m, hm, hme⟩ := h
    have := hsg m k (by omega) hk (by omega)
    rw [hme] at this
    refine ⟨(hS0 i hi).mpr ?_, this⟩
    rw [← hme]
    exact List.getElem_mem _
theorem m_stored1 {fu : Nat} {M : mwM} {L : mwL} {N i x : Nat} {sd : Nat → Nat} {r : Int32 × mwM × mwL → Option (Int32 × mwM × mwL)} {Q : Int32 × mwM × mwL → Prop} (hf : 31 ≤ fu) (hN : N ≤ 30) (hx : x < N) (hi : i < 1000) (hsd : ∀ x, x < N → sd x < 2000000000) (hC : M 902 2 = sI N) (hS : ∀ i, i < N → M 916 (i + 1) = sI (sd i)) (hyes : 0 < sd x → cnt (fun e => decide (0 < sd e ∧ sd e < sd x)) N = i → Q (sI (x + 1), M, L)) (hno : ¬ (0 < sd x ∧ cnt (fun e => decide (0 < sd e ∧ sd e < sd x)) N = i) → wq (r (sI (x + 1 + 1), M, L)) Q) : wq (fX18_stored_h61 fu (sI i) 0 r fu (sI (x + 1), 0, 1, M, L)) Q := by
  have hsx := hsd x hx
  refine wq_for (body := fun r61 s => fX18_stored_i61 fu (sI i) 0 r r61 s.1 s.2.1 s.2.2.1 s.2.2.2.1 s.2.2.2.2) (fun j (c : Nat) => (sI (x + 1), sI c, sI (j + 1), M, L)) (fun j c => c = cnt (fun e => decide (0 < sd e ∧ sd e < sd x)) j) N ?_ ?_ N 0 0 fu (by omega) (by omega) rfl
  · intro j c r61 hj hc ih
    show wq (fX18_stored_i61 fu (sI i) 0 r r61 (sI (x + 1)) (sI c) (sI (j + 1)) M L) _
    unfold fX18_stored_i61 fX18_stored_b103 fX18_stored_b105
    have hsj := hsd j hj
    rw [hC, if_neg (by rw [sI_lt (by omega) (by omega)]; omega), mck_s (by omega) (by omega), sI_nn (by omega), hS j hj]
    simp only [mlet]
    rw [sI_1, sI_1]
    by_cases hz : sd j = 0
    · rw [if_pos (by rw [hz]; decide)]
      refine ih c ?_
      show c = cnt _ j + _
      rw [← hc]
      simp [hz]
    · rw [if_neg (by rw [sI_lel (by omega) (by decide)]; exact Nat.not_le.mpr (Nat.pos_of_ne_zero hz)), mck_s (by omega) (by omega), mck_s (by omega) (by omega), sI_nn (by omega), hS x hx]
      have hp : 0 < sd j := Nat.pos_of_ne_zero hz
      by_cases hle : sd x ≤ sd j
      · rw [if_pos (by rw [sI_le (by omega) (by omega)]; exact hle)]
        refine ih c ?_
        show c = cnt _ j + _
        rw [← hc]
        have : ¬ sd j < sd x := by omega
        simp [this]
      · rw [if_neg (by rw [sI_le (by omega) (by omega)]; exact hle)]
        refine ih (c + 1) ?_
        show c + 1 = cnt _ j + _
        rw [← hc]
        have : sd j < sd x := by omega
        simp [this, hp]
  · intro c r61 hc
    show wq (fX18_stored_i61 fu (sI i) 0 r r61 (sI (x + 1)) (sI c) (sI (N + 1)) M L) _
    have hcl : c ≤ N := by rw [hc]; exact cnt_le _ _
    unfold fX18_stored_i61 fX18_stored_b157 fX18_stored_b156
    rw [hC, if_pos (by rw [sI_lt (by omega) (by omega)]; omega), mck_s (by omega) (by omega), sI_nn (by omega), hS x hx]
    simp only [mlet]
    rw [sI_1]
    by_cases hz : sd x = 0
    · rw [if_pos (by rw [hz]; decide)]
      exact hno (by omega)
    · rw [if_neg (by rw [sI_lel (by omega) (by decide)]; exact Nat.not_le.mpr (Nat.pos_of_ne_zero hz))]
      have hp : 0 < sd x := Nat.pos_of_ne_zero hz
      by_cases hci : c = i
      · rw [if_pos (by rw [hci])]
        first | rw [if_pos rfl] | rw [if_pos trivial]
        exact wq_some (hyes hp (by rw [← hc, hci]))
      · rw [if_neg (by rw [sI_eq (by omega) (by omega)]; exact hci)]
        exact hno (fun q => hci (by rw [hc, q.2]))
theorem m_stored {fu : Nat} {M : mwM} {L : mwL} {N i : Nat} {l : List Nat} {sd : Nat → Nat} (hf : 31 ≤ fu) (hN : N ≤ 30) (hi : i < 1000) (h8 : l.length ≤ 8) (hsd : ∀ x, x < N → sd x < 2000000000) (hl : ∀ x ∈ l, x < N) (hs : l.Pairwise (fun x y => sd x < sd y)) (hC : M 902 2 = sI N) (hS : ∀ i, i < N → M 916 (i + 1) = sI (sd i)) (hS0 : ∀ i, i < N → (0 < sd i ↔ i ∈ l)) : DX18_stored fu (sI i) 0 M L = some ((if h : i < l.length then sI (l[i] + 1) else -1), mset M 902 0 0, L) := by
  have hC2 : mset M 902 0 0 902 2 = sI N := by rw [mset_j (by decide)]; exact hC
  have hS2 : ∀ i, i < N → mset M 902 0 0 916 (i + 1) = sI (sd i) := fun i hi => by rw [mset_k (by decide)]; exact hS i hi
  unfold DX18_stored fX18_stored_b19 fX18_stored_b31 fX18_stored_b42
  simp only [mlet]
  have h1 : ¬ sI i = (-1) := by
    intro q
    have q2 := congrArg Int32.toInt q
    rw [sI_toInt (by omega)] at q2
    have q3 : (-1 : Int32).toInt = -1 := by decide
    omega
  rw [if_neg h1, if_neg (by rw [sI_ltl (by omega) (by decide)]; exact Nat.not_lt_zero _), m_entries hf hN hsd hl (oke_nodup hs) hC2 hS2 hS0, mb3_s]
  by_cases hil : i < l.length
  · rw [if_pos (by rw [sI_lt (by omega) (by omega)]; exact hil), dif_pos hil]
    first | rw [if_neg (by decide), if_pos (by decide)] | simp only [if_neg (show ¬ (0 : Int32) < 0 by decide), if_pos (show (0 : Int32) ≤ 2 by decide)]
    have hb := before_k hl hs hS0 i hil
    have hli := hl _ (List.getElem_mem hil)
    have h := wq_for (body := fun r47 s => fX18_stored_i47 fu (sI i) 0 r47 s.1 s.2.1 s.2.2) (Q := fun q => q = (sI (l[i] + 1), mset M 902 0 0, L)) (fun j (_ : Unit) => (sI (j + 1), mset M 902 0 0, L)) (fun j _ => j ≤ l[i]) N ?_ ?_ N 0 () fu (by omega) (by omega) (Nat.zero_le _)
    · obtain ⟨q, e, rfl⟩ := h
      exact e
    · intro j _ r hj hP ih
      show wq (fX18_stored_i47 fu (sI i) 0 r (sI (j + 1)) (mset M 902 0 0) L) _
      unfold fX18_stored_i47
      rw [hC2, if_neg (by rw [sI_lt (by omega) (by omega)]; omega)]
      refine m_stored1 hf hN hj hi hsd hC2 hS2 ?_ ?_
      · intro q1 q2
        -- the place in the list is known by how many are before
        obtain ⟨m, hm, hme⟩ := List.getElem_of_mem ((hS0 j hj).mp q1)
        have hb2 := before_k hl hs hS0 m hm
        rw [hme] at hb2
        have : m = i := by omega
        subst this
        rw [hme]
      · intro hno
        refine ih () ?_
        have : j ≠ l[i] := by
          intro q
          apply hno
          rw [q]
          exact ⟨(hS0 _ hli).mpr (List.getElem_mem hil), hb⟩
        omega
    · intro _ r hP
      omega
  · rw [if_neg (by rw [sI_lt (by omega) (by omega)]; exact hil), dif_neg hil]
/-- the entries, as both sides tell them -/
theorem st_stored {fu : Nat} {A M : mwM} {L L2 : mwL} {N E i : Nat} (hf : 31 ≤ fu) (hE : E < 900000000) (hi : i < N) (h : RTr A M N E) : ∃ x, DX10_tell fu (sI i) 4 A L = some (x, A, L) ∧ DX18_stored fu (sI i) 0 M L2 = some (x, mset M 902 0 0, L2) := by
  obtain ⟨hN, a1, a2, a3, a4, a5, a6, a7, a8, _, a10, l, sd, ⟨b1, b2, b3, b4⟩, ⟨e1, e2, e3, t0, e4, e5, e6⟩, hF⟩ := h
  refine ⟨if h : i < l.length then sI (l[i] + 1) else -1, ?_, m_stored hf hN (by omega) b1 (fun x hx => by have := e6 x hx; omega) b2 e3 a2 e1 e2⟩
  unfold DX10_tell fX10_tell_b115
  simp only [mlet]
  rw [if_neg (by decide), if_neg (by decide), if_neg (by decide), if_neg (by decide), b3]
  by_cases hil : i < l.length
  · rw [if_neg (by rw [sI_le (by omega) (by omega)]; omega), dif_pos hil, mck_s (by omega) (by omega), sI_nn (by omega), b4 i hil, sI_1]
  · rw [if_pos (by rw [sI_le (by omega) (by omega)]; omega), dif_neg hil]
