theorem m_many {fu : Nat} {A M : mwM} {L : mwL} {N : Nat} (hf : 31 ≤ fu) (hN : N ≤ 30) (hk : okp A M N) (hC : M 902 2 = sI N) : ∃ x, DX18_many fu 0 M L = some (x, M, L) := by
  have h := wq_for (body := fun r4 s => fX18_many_i4 fu 0 r4 s.1 s.2.1 s.2.2.1 s.2.2.2) (Q := fun q => q.2 = (M, L)) (fun j (a : Int32) => (a, sI (j + 1), M, L)) (fun _ _ => True) N ?_ ?_ N 0 0 fu (by omega) (by omega) trivial
  · obtain ⟨⟨x, q⟩, e, rfl⟩ := h
    exact ⟨x, e⟩
  · intro j a r hj _ ih
    show wq (fX18_many_i4 fu 0 r a (sI (j + 1)) M L) _
    unfold fX18_many_i4 fX18_many_b28
    obtain ⟨k1, k2, k3, k4, k5, k6⟩ := okp_at hN hk hj
    rw [hC, if_neg (by rw [sI_lt (by omega) (by omega)]; omega), k6, mb3_s]
    simp only [mlet]
    rw [sI_1]
    split
    · exact ih _ trivial
    · exact ih _ trivial
  · intro a r _
    show wq (fX18_many_i4 fu 0 r a (sI (N + 1)) M L) _
    unfold fX18_many_i4
    rw [hC, if_pos (by rw [sI_lt (by omega) (by omega)]; omega)]
    exact wq_some rfl
theorem okp_f {A M M' : mwM} {N : Nat} (h : okp A M N) (h1 : ∀ j, M' 145 j = M 145 j) (h2 : ∀ j, M' 146 j = M 146 j) (h3 : ∀ j, M' 903 j = M 903 j) (h4 : ∀ j, M' 908 j = M 908 j) : okp A M' N := by
  intro i hi
  obtain ⟨p, n, a1, a2, a3, a4, a5, a6, a7⟩ := h i hi
  exact ⟨p, n, a1, a2, a3, a4, a5, by rw [h3, a6], dg_f a7 (fun b _ => h4 _)⟩
theorem m_shoot {fu : Nat} {A M : mwM} {L : mwL} {N i w : Nat} (hf : 31 ≤ fu) (hN : N ≤ 30) (hi : i < N) (hw : w < 2) (hk : okp A M N) (hC : M 902 2 = sI N) : wq (DX18_shoot fu (sI (i + 1)) (sI w) M L) (fun q => q.2 = L ∧ q.1 918 (8 * (i + 1) + 4 * w + 1) = M 902 25 ∧ ∀ a j, ¬ (a = 918 ∧ 8 * (i + 1) + 4 * w ≤ j ∧ j < 8 * (i + 1) + 4 * w + 4) → q.1 a j = M a j) := by
  unfold DX18_shoot
  simp only [mlet]
  rw [sI_lml, sI_lml, sI_add, mck_s (by omega) (by omega), sI_nn (by omega), sI_1, mck_s (by omega) (by omega), sI_nn (by omega)]
  obtain ⟨x, hx⟩ := m_many (fu := fu) (L := L) (M := mset (mset M 918 (8 * (i + 1) + 4 * w) (M 902 24)) 918 (8 * (i + 1) + 4 * w + 1) (mset M 918 (8 * (i + 1) + 4 * w) (M 902 24) 902 25)) hf hN (okp_f hk (fun j => by rw [mset_k (by decide), mset_k (by decide)]) (fun j => by rw [mset_k (by decide), mset_k (by decide)]) (fun j => by rw [mset_k (by decide), mset_k (by decide)]) (fun j => by rw [mset_k (by decide), mset_k (by decide)])) (by rw [mset_k (by decide), mset_k (by decide)]; exact hC)
  rw [hx, mb3_s, sI_adl, mck_s (by omega) (by omega), sI_nn (by omega), mck_s (by omega) (by omega), sI_adl, mck_s (by omega) (by omega), sI_nn (by omega), sI_nn (by omega)]
  refine wq_some ⟨rfl, ?_, ?_⟩
  · simp only []
    rw [mset_j (by omega), mset_j (by omega), mset_s, mset_k (by decide)]
  · intro a j h
    simp only []
    rw [mset_n (by omega), mset_n (by omega), mset_n (by omega), mset_n (by omega)]
/-- what the memory becomes by a code that fails -/
def nxt (M : mwM) (l : List Nat) (sd : Nat → Nat) (p i : Nat) (l' : List Nat) : Prop :=
  (i ∈ l ∧ l' = l) ∨ (i ∉ l ∧ l.length < 8 ∧ l' = l ++ [i]) ∨ (i ∉ l ∧ l.length = 8 ∧ (∀ y ∈ l, wt M y ≤ 2 * p) ∧ l' = l) ∨ (i ∉ l ∧ l.length = 8 ∧ ∃ e, ∃ h : e < l.length, isBest M l sd p (l[e]'h) ∧ l' = l.eraseIdx e ++ [i])
theorem row_app {M M' : mwM} {l : List Nat} {i : Nat} (hM : ∀ e (h : e < l.length), M 153 e = sI (l[e]'h)) (hn : M' 153 l.length = sI i) (hs : ∀ e, e < l.length → M' 153 e = M 153 e) : ∀ e (h : e < (l ++ [i]).length), M' 153 e = sI ((l ++ [i])[e]'h) := by
  intro e h
  rw [List.getElem_append]
  by_cases he : e < l.length
  · rw [dif_pos he, hs e he, hM e he]
  · rw [dif_neg he]
    have : e = l.length := by simp at h; omega
    subst this
    simp [hn]
theorem c_store {fu : Nat} {M : mwM} {L : mwL} {N i p : Nat} {l : List Nat} {sd : Nat → Nat} (hf : 9 ≤ fu) (hN : N ≤ 30) (hi : i < N) (hp : M 145 i = sI p) (hpl : p < 256) (h8 : l.length ≤ 8) (hl : ∀ x ∈ l, x < N) (hs : l.Pairwise (fun x y => sd x < sd y)) (hk : okq M N) (hE : M 139 3 = sI l.length) (hM : ∀ e (h : e < l.length), M 153 e = sI (l[e]'h)) : wq (DX10_store fu (sI i) M L) (fun q => q.2 = L ∧ ∃ l', nxt M l sd p i l' ∧ q.1 139 3 = sI l'.length ∧ (∀ e (h : e < l'.length), q.1 153 e = sI (l'[e]'h)) ∧ (i ∈ l' → q.1 152 i = M 139 5 ∧ (i ∈ l → q.1 151 i = M 151 i) ∧ (i ∉ l → q.1 151 i = M 139 5)) ∧ ∀ a j, a ≠ 153 → ¬ (a = 139 ∧ j = 3) → ¬ (j = i ∧ (a = 151 ∨ a = 152)) → q.1 a j = M a j) := by
  unfold DX10_store
  refine wq_b3 (c_entryOf hf (by omega) h8 (fun x hx => by have := hl x hx; omega) hE hM) ?_
  rintro r M1 L1 ⟨hq, hr⟩
  obtain ⟨rfl, rfl⟩ : M1 = M ∧ L1 = L := by simpa using hq
  dsimp only at hr
  rcases hr with ⟨rfl, hil⟩ | ⟨e, he, rfl, hel⟩
  · rw [if_neg (by decide), hE]
    have app : ∀ (M2 : mwM) (l2 : List Nat), l2.length < 8 → M2 139 3 = sI l2.length → (∀ e (h : e < l2.length), M2 153 e = sI (l2[e]'h)) → (∀ a j, a ≠ 153 → ¬ (a = 139 ∧ j = 3) → M2 a j = M1 a j) → nxt M1 l sd p i (l2 ++ [i]) → wq (fX10_store_b26 fu (sI i) M2 L1) (fun q => q.2 = L1 ∧ ∃ l', nxt M1 l sd p i l' ∧ q.1 139 3 = sI l'.length ∧ (∀ e (h : e < l'.length), q.1 153 e = sI (l'[e]'h)) ∧ (i ∈ l' → q.1 152 i = M1 139 5 ∧ (i ∈ l → q.1 151 i = M1 151 i) ∧ (i ∉ l → q.1 151 i = M1 139 5)) ∧ ∀ a j, a ≠ 153 → ¬ (a = 139 ∧ j = 3) → ¬ (j = i ∧ (a = 151 ∨ a = 152)) → q.1 a j = M1 a j) := by
      intro M2 l2 hl2 hE2 hM2 hfr hnx
      unfold fX10_store_b26 fX10_store_b69
      rw [hE2, if_pos (by rw [sI_ltl (by omega) (by omega)]; exact hl2), mck_s (by omega) (by omega)]
      simp only [mlet]
      rw [sI_nn (by omega), mck_s (by omega) (by omega), sI_nn (by omega), mck_s (by omega) (by omega), mset_k (a := 139) (by decide), hE2, sI_1]
      refine wq_some ⟨rfl, l2 ++ [i], hnx, ?_, ?_, ?_, ?_⟩
      · simp only []
        rw [mset_k (by decide), mset_k (by decide), mset_s]
        simp
      · refine row_app (M := M2) hM2 ?_ ?_
        · simp only []
          rw [mset_k (by decide), mset_k (by decide), mset_k (by decide), mset_s]
        · intro e he
          simp only []
          rw [mset_k (by decide), mset_k (by decide), mset_k (by decide), mset_j (by omega)]
      · intro _
        have h5 : M2 139 5 = M1 139 5 := hfr 139 5 (by decide) (by decide)
        refine ⟨?_, fun h => absurd h hil, fun _ => ?_⟩
        · simp [mset, h5]
        · simp [mset, h5]
      · intro a j h1 h2 h3
        simp only []
        rw [mset_n (by omega), mset_n (by omega), mset_n h2, mset_k h1]
        exact hfr a j h1 h2
    by_cases h7 : l.length < 8
    · rw [if_pos (by rw [sI_ltl (by omega) (by omega)]; exact h7)]
      exact app M1 l h7 hE hM (fun _ _ _ _ => rfl) (Or.inr (Or.inl ⟨hil, h7, rfl⟩))
    · rw [if_neg (by rw [sI_ltl (by omega) (by omega)]; exact h7)]
      refine wq_b3 (c_findLesser hf hN hi hp hpl h8 hl hs hk hE hM) ?_
      rintro r2 M2 L2 ⟨hq2, hr2⟩
      obtain ⟨rfl, rfl⟩ : M2 = M1 ∧ L2 = L1 := by simpa using hq2
      dsimp only at hr2
      rcases hr2 with ⟨rfl, hno⟩ | ⟨e, he, rfl, hb⟩
      · have hrem : DX10_removeEntry fu (-1) M2 L2 = some (M2, L2) := by
          unfold DX10_removeEntry
          rw [if_neg (by decide)]
        rw [hrem, mb2_s]
        unfold fX10_store_b26
        rw [hE, if_neg (by rw [sI_ltl (by omega) (by omega)]; exact h7)]
        refine wq_some ⟨rfl, l, Or.inr (Or.inr (Or.inl ⟨hil, by omega, hno, rfl⟩)), hE, hM, fun h => absurd h hil, fun _ _ _ _ _ => rfl⟩
      · refine wq_b2 (c_remove hf h8 he hE hM) ?_
        rintro M3 L3 ⟨hL3, hE3, hM3, hfr3⟩
        dsimp only at hL3 hE3 hM3 hfr3
        subst hL3
        have hlen : (l.eraseIdx e).length = l.length - 1 := List.length_eraseIdx_of_lt he
        exact app M3 (l.eraseIdx e) (by omega) hE3 hM3 hfr3 (Or.inr (Or.inr (Or.inr ⟨hil, by omega, e, he, hb, rfl⟩)))
  · rw [if_pos (by rw [sI_lle (by omega) (by omega)]; omega)]
    have hil : i ∈ l := hel ▸ List.getElem_mem he
    unfold fX10_store_b69
    rw [mck_s (by omega) (by omega), sI_nn (by omega)]
    simp only [mlet]
    refine wq_some ⟨rfl, l, Or.inl ⟨hil, rfl⟩, ?_, ?_, ?_, ?_⟩
    · simp only []
      rw [mset_k (by decide)]; exact hE
    · intro e he
      simp only []
      rw [mset_k (by decide)]; exact hM e he
    · intro _
      refine ⟨by simp [mset], fun _ => by simp [mset], fun h => absurd hil h⟩
    · intro a j h1 h2 h3
      simp only []
      rw [mset_n (by omega)]
