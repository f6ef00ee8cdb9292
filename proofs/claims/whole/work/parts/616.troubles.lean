theorem nxt_mem {M : mwM} {l l' : List Nat} {sd : Nat → Nat} {p i N : Nat} (hi : i < N) (hl : ∀ x ∈ l, x < N) (h : nxt M l sd p i l') : (∀ x ∈ l', x < N) ∧ (l.length ≤ 8 → l'.length ≤ 8) := by
  rcases h with ⟨_, rfl⟩ | ⟨_, h2, rfl⟩ | ⟨_, _, _, rfl⟩ | ⟨_, h2, e, he, _, rfl⟩
  · exact ⟨hl, fun h => h⟩
  · refine ⟨?_, fun _ => by simp; omega⟩
    all_goals (try dsimp only)
    intro x hx
    rw [List.mem_append] at hx
    rcases hx with hx | hx
    · exact hl x hx
    · simp at hx; omega
  · exact ⟨hl, fun h => h⟩
  · refine ⟨?_, fun _ => by simp [List.length_eraseIdx_of_lt he]; omega⟩
    all_goals (try dsimp only)
    intro x hx
    rw [List.mem_append] at hx
    rcases hx with hx | hx
    · exact hl x (List.mem_of_mem_eraseIdx hx)
    · simp at hx; omega
/-- the reference's last steps of storing a new entry -/
theorem m_put {fu : Nat} {A M : mwM} {L : mwL} {N i t : Nat} (hf : 31 ≤ fu) (hN : N ≤ 30) (hi : i < N) (ht : t < 1000000000) (hk : okp A M N) (hC : M 902 2 = sI N) (hT : M 902 19 = sI t) : wq (fX18_store_b107 fu (sI (i + 1)) M L) (fun q => q.2 = L ∧ q.1 902 19 = sI (t + 1) ∧ q.1 916 (i + 1) = sI (t + 1) ∧ q.1 918 (8 * (i + 1) + 1) = M 902 25 ∧ q.1 918 (8 * (i + 1) + 5) = M 902 25 ∧ (∀ j, j ≠ i + 1 → q.1 916 j = M 916 j) ∧ (∀ j, ¬ (8 * (i + 1) ≤ j ∧ j < 8 * (i + 1) + 8) → q.1 918 j = M 918 j) ∧ ∀ a j, a ≠ 916 → a ≠ 917 → a ≠ 918 → ¬ (a = 902 ∧ j = 19) → q.1 a j = M a j) := by
  unfold fX18_store_b107
  simp only [mlet]
  rw [mck_s (by omega) (by omega), sI_nn (by omega), mck_s (by omega) (by omega), hT, sI_1]
  rw [show mset M 902 19 (sI (t + 1)) 902 19 = sI (t + 1) from mset_s]
  have hk2 : okp A (mset (mset (mset M 902 19 (sI (t + 1))) 916 (i + 1) (sI (t + 1))) 917 (i + 1) 1) N := okp_f hk (fun j => by rw [mset_k (by decide), mset_k (by decide), mset_k (by decide)]) (fun j => by rw [mset_k (by decide), mset_k (by decide), mset_k (by decide)]) (fun j => by rw [mset_k (by decide), mset_k (by decide), mset_k (by decide)]) (fun j => by rw [mset_k (by decide), mset_k (by decide), mset_k (by decide)])
  refine wq_b2 (m_shoot (w := 0) hf hN hi (by omega) hk2 (by rw [mset_k (by decide), mset_k (by decide), mset_j (by decide)]; exact hC)) ?_
  rintro M1 L1 ⟨rfl, a1, a2⟩
  dsimp only at a1 a2
  refine wq_b2 (m_shoot (w := 1) hf hN hi (by omega) (okp_f hk2 (fun j => a2 _ _ (by omega)) (fun j => a2 _ _ (by omega)) (fun j => a2 _ _ (by omega)) (fun j => a2 _ _ (by omega))) (by rw [a2 _ _ (by omega), mset_k (by decide), mset_k (by decide), mset_j (by decide)]; exact hC)) ?_
  rintro M2 L2 ⟨rfl, b1, b2⟩
  dsimp only at b1 b2
  refine wq_some ⟨rfl, ?_, ?_, ?_, ?_, ?_, ?_, ?_⟩
  all_goals (try dsimp only)
  · try dsimp only
    rw [b2 _ _ (by omega), a2 _ _ (by omega), mset_k (by decide), mset_k (by decide), mset_s]
  · try dsimp only
    rw [b2 _ _ (by omega), a2 _ _ (by omega), mset_k (by decide), mset_s]
  · try dsimp only
    rw [b2 _ _ (by omega), show 8 * (i + 1) + 1 = 8 * (i + 1) + 4 * 0 + 1 by omega, a1, mset_k (by decide), mset_k (by decide), mset_j (by decide)]
  · try dsimp only
    rw [show 8 * (i + 1) + 5 = 8 * (i + 1) + 4 * 1 + 1 by omega, b1, a2 _ _ (by omega), mset_k (by decide), mset_k (by decide), mset_j (by decide)]
  · intro j hj
    try dsimp only
    rw [b2 _ _ (by omega), a2 _ _ (by omega), mset_k (by decide), mset_j hj, mset_k (by decide)]
  · intro j hj
    try dsimp only
    rw [b2 _ _ (by omega), a2 _ _ (by omega), mset_k (by decide), mset_k (by decide), mset_k (by decide)]
  · intro a j h1 h2 h3 h4
    try dsimp only
    rw [b2 _ _ (by omega), a2 _ _ (by omega), mset_k h2, mset_k h1, mset_n h4]
theorem sd_upd {sd : Nat → Nat} {l : List Nat} {N i t : Nat} (hs : l.Pairwise (fun x y => sd x < sd y)) (hl : ∀ x ∈ l, x < N) (hil : i ∉ l) (ht : ∀ x, x < N → sd x ≤ t) : (l ++ [i]).Pairwise (fun x y => (if x = i then t + 1 else sd x) < (if y = i then t + 1 else sd y)) := by
  rw [List.pairwise_append]
  refine ⟨?_, by simp, ?_⟩
  all_goals (try dsimp only)
  · rw [List.pairwise_iff_getElem] at hs ⊢
    intro a b ha hb hab
    have h1 : l[a] ≠ i := fun h => hil (h ▸ List.getElem_mem ha)
    have h2 : l[b] ≠ i := fun h => hil (h ▸ List.getElem_mem hb)
    rw [if_neg h1, if_neg h2]
    exact hs a b ha hb hab
  · intro x hx y hy
    have h1 : x ≠ i := fun h => hil (h ▸ hx)
    have h2 : y = i := by simpa using hy
    rw [if_neg h1, if_pos h2]
    have := ht x (hl x hx)
    omega
abbrev stP (A : mwM) (N i p t : Nat) (l : List Nat) (sd : Nat → Nat) (M q : mwM) : Prop := ∃ (l' : List Nat) (sd' : Nat → Nat) (t' G' : Nat), nxt A l sd p i l' ∧ t' ≤ t + 1 ∧ q 902 19 = sI t' ∧ (∀ x, x < N → sd' x ≤ t') ∧ q 902 20 = sI G' ∧ G' ≤ 500 ∧ (∀ x, x < N → q 916 (x + 1) = sI (sd' x)) ∧ (∀ x, x < N → (0 < sd' x ↔ x ∈ l')) ∧ l'.Pairwise (fun x y => sd' x < sd' y) ∧ (i ∈ l' → q 918 (8 * (i + 1) + 5) = M 902 25 ∧ (i ∈ l → q 918 (8 * (i + 1) + 1) = M 918 (8 * (i + 1) + 1)) ∧ (i ∉ l → q 918 (8 * (i + 1) + 1) = M 902 25)) ∧ (∀ j, ¬ (8 * (i + 1) ≤ j ∧ j < 8 * (i + 1) + 8) → q 918 j = M 918 j)
abbrev stF (M q : mwM) : Prop := ∀ a j, a ≠ 916 → a ≠ 917 → a ≠ 918 → a ≠ 919 → ¬ (a = 902 ∧ (j = 19 ∨ j = 20)) → q a j = M a j
theorem m_store {fu : Nat} {A M : mwM} {L : mwL} {N i p t G : Nat} {l : List Nat} {sd : Nat → Nat} (hf : 31 ≤ fu) (hN : N ≤ 30) (hi : i < N) (hp : pr A i = p) (h8 : l.length ≤ 8) (ht : t < 1000000000) (hl : ∀ x ∈ l, x < N) (hs : l.Pairwise (fun x y => sd x < sd y)) (hk : okp A M N) (hC : M 902 2 = sI N) (hR : M 902 1 = 8) (hT : M 902 19 = sI t) (hT2 : ∀ x, x < N → sd x ≤ t) (hG : M 902 20 = sI G) (hG2 : G ≤ 500) (hS : ∀ i, i < N → M 916 (i + 1) = sI (sd i)) (hS0 : ∀ i, i < N → (0 < sd i ↔ i ∈ l)) : wq (DX18_store fu (sI (i + 1)) M L) (fun q => q.2 = L ∧ stP A N i p t l sd M q.1 ∧ stF M q.1) := by
  have hnd := oke_nodup hs
  have hsd : ∀ x, x < N → sd x < 2000000000 := fun x hx => by have := hT2 x hx; omega
  have hsi := hsd i hi
  unfold DX18_store
  rw [mck_s (by omega) (by omega), sI_nn (by omega), hS i hi]
  by_cases hz : sd i = 0
  · have hil : i ∉ l := fun h => by have := (hS0 i hi).mpr h; omega
    rw [if_pos (by rw [hz]; decide), m_entries hf hN hsd hl hnd hC hS hS0, mb3_s, hR]
    have app : ∀ (M2 : mwM) (l2 : List Nat) (sd2 : Nat → Nat) (G2 : Nat), okp A M2 N → M2 902 2 = sI N → M2 902 19 = sI t → M2 902 20 = sI G2 → G2 ≤ 500 → M2 902 25 = M 902 25 → (∀ x ∈ l2, x < N) → l2.Pairwise (fun x y => sd2 x < sd2 y) → i ∉ l2 → (∀ x, x < N → sd2 x ≤ t) → (∀ x, x < N → M2 916 (x + 1) = sI (sd2 x)) → (∀ x, x < N → x ≠ i → (0 < sd2 x ↔ x ∈ l2)) → (∀ j, M2 918 j = M 918 j) → (∀ a j, a ≠ 916 → a ≠ 917 → a ≠ 918 → a ≠ 919 → ¬ (a = 902 ∧ (j = 19 ∨ j = 20)) → M2 a j = M a j) → nxt A l sd p i (l2 ++ [i]) → wq (fX18_store_b107 fu (sI (i + 1)) M2 L) (fun q => q.2 = L ∧ stP A N i p t l sd M q.1 ∧ stF M q.1) := by
      intro M2 l2 sd2 G2 g1 g2 g3 g4 g5 g6 g7 g8 g9 g10 g11 g12 g13 g14 g15
      refine wq_mono (m_put hf hN hi ht g1 g2 g3) ?_
      rintro ⟨M3, L3⟩ ⟨e1, e2, e3, e4, e5, e6, e7, e8⟩
      dsimp only at e1 e2 e3 e4 e5 e6 e7 e8
      subst e1
      refine ⟨rfl, ⟨l2 ++ [i], (fun x => if x = i then t + 1 else sd2 x), t + 1, G2, g15, Nat.le_refl _, e2, ?_, ?_, g5, ?_, ?_, sd_upd g8 g7 g9 g10, ?_, ?_⟩, ?_⟩
      all_goals (try dsimp only)
      · intro x hx
        by_cases hxi : x = i
        · rw [if_pos hxi]; exact Nat.le_refl _
        · rw [if_neg hxi]; have := g10 x hx; omega
      · rw [e8 _ _ (by decide) (by decide) (by decide) (by decide)]; exact g4
      · intro x hx
        by_cases hxi : x = i
        · rw [if_pos hxi, hxi]; exact e3
        · rw [if_neg hxi, e6 _ (by omega)]; exact g11 x hx
      · intro x hx
        rw [List.mem_append]
        by_cases hxi : x = i
        · rw [if_pos hxi]
          exact ⟨fun _ => Or.inr (by simp [hxi]), fun _ => by omega⟩
        · rw [if_neg hxi, g12 x hx hxi]
          exact ⟨fun h => Or.inl h, fun h => by rcases h with h | h; exact h; simp at h; exact absurd h hxi⟩
      · intro _
        exact ⟨by rw [e5, g6], fun h => absurd h hil, fun _ => by rw [e4, g6]⟩
      · intro j hj
        rw [e7 j hj, g13 j]
      · intro a j h1 h2 h3 h4 h5
        rw [e8 a j h1 h2 h3 (fun q => h5 ⟨q.1, Or.inl q.2⟩)]
        exact g14 a j h1 h2 h3 h4 h5
    by_cases h7 : l.length < 8
    · rw [if_pos (by rw [sI_ltl (by omega) (by omega)]; exact h7)]
      exact app M l sd G hk hC hT hG hG2 rfl hl hs hil hT2 hS (fun x hx _ => hS0 x hx) (fun _ => rfl) (fun _ _ _ _ _ _ _ => rfl) (Or.inr (Or.inl ⟨hil, h7, rfl⟩))
    · rw [if_neg (by rw [sI_ltl (by omega) (by omega)]; exact h7)]
      refine wq_b3 (m_goes hf hN hi hp hsd hl hk hC hS hS0) ?_
      rintro r M1 L1 ⟨hq, hr⟩
      obtain ⟨rfl, rfl⟩ : M1 = M ∧ L1 = L := by simpa using hq
      dsimp only at hr
      rcases hr with ⟨rfl, hno⟩ | ⟨x, hb, rfl⟩
      · rw [if_pos rfl]
        refine wq_some ⟨rfl, ⟨l, sd, t, G, Or.inr (Or.inr (Or.inl ⟨hil, by omega, hno, rfl⟩)), by omega, hT, hT2, hG, hG2, hS, hS0, hs, fun h => absurd h hil, fun _ _ => rfl⟩, fun _ _ _ _ _ _ _ => rfl⟩
      · have hxN := hl x hb.1
        have hxi : x ≠ i := fun h => hil (h ▸ hb.1)
        obtain ⟨e, he, hex⟩ := List.getElem_of_mem hb.1
        rw [if_neg (by rw [sI_eql (by omega) (by omega)]; omega), mck_s (by omega) (by omega), sI_nn (by omega)]
        simp only [mlet]
        have hmem : ∀ y, y ∈ l.eraseIdx e ↔ (y ∈ l ∧ y ≠ x) := by
          intro y
          have hsg := List.pairwise_iff_getElem.mp hs
          rw [List.mem_eraseIdx_iff_getElem]
          constructor
          · rintro ⟨k, hk1, hk2, hk3⟩
            refine ⟨hk3 ▸ List.getElem_mem hk1, ?_⟩
            all_goals (try dsimp only)
            intro hyx
            rcases Nat.lt_trichotomy k e with h | h | h
            · have := hsg k e hk1 he h
              rw [hk3, hex, hyx] at this
              omega
            · exact hk2 h
            · have := hsg e k he hk1 h
              rw [hk3, hex, hyx] at this
              omega
          · rintro ⟨hy, hyx⟩
            obtain ⟨k, hk1, hk3⟩ := List.getElem_of_mem hy
            refine ⟨k, hk1, ?_, hk3⟩
            all_goals (try dsimp only)
            intro hke
            subst hke
            exact hyx (hk3 ▸ hex)
        have hs2 : (l.eraseIdx e).Pairwise (fun a b => (if a = x then 0 else sd a) < (if b = x then 0 else sd b)) := by
          refine List.Pairwise.imp_of_mem ?_ (List.Pairwise.sublist (List.eraseIdx_sublist _ _) hs)
          intro a b ha hb' hab
          rw [if_neg ((hmem a).mp ha).2, if_neg ((hmem b).mp hb').2]
          exact hab
        have step : ∀ (M2 : mwM) (G2 : Nat), M2 902 20 = sI G2 → G2 ≤ 500 → (∀ a j, a ≠ 919 → ¬ (a = 902 ∧ j = 20) → M2 a j = mset M1 916 (x + 1) 0 a j) → wq (fX18_store_b107 fu (sI (i + 1)) M2 L1) (fun q => q.2 = L1 ∧ stP A N i p t l sd M1 q.1 ∧ stF M1 q.1) := by
          intro M2 G2 f1 f2 f3
          have f4 : ∀ a j, a ≠ 919 → a ≠ 916 → ¬ (a = 902 ∧ j = 20) → M2 a j = M1 a j := fun a j h1 h2 h3 => by rw [f3 a j h1 h3, mset_k h2]
          refine app M2 (l.eraseIdx e) (fun y => if y = x then 0 else sd y) G2 (okp_f hk (fun j => f4 _ _ (by omega) (by omega) (by omega)) (fun j => f4 _ _ (by omega) (by omega) (by omega)) (fun j => f4 _ _ (by omega) (by omega) (by omega)) (fun j => f4 _ _ (by omega) (by omega) (by omega))) (by rw [f4 _ _ (by omega) (by omega) (by omega)]; exact hC) (by rw [f4 _ _ (by omega) (by omega) (by omega)]; exact hT) f1 f2 (f4 _ _ (by omega) (by omega) (by omega)) (fun y hy => hl y ((hmem y).mp hy).1) hs2 (fun h => hil ((hmem i).mp h).1) ?_ ?_ ?_ (fun j => f4 _ _ (by omega) (by omega) (by omega)) ?_ (Or.inr (Or.inr (Or.inr ⟨hil, by omega, e, he, hex ▸ hb, rfl⟩)))
          · intro y hy
            by_cases h : y = x
            · rw [if_pos h]; omega
            · rw [if_neg h]; exact hT2 y hy
          · intro y hy
            rw [f3 _ _ (by omega) (by omega)]
            by_cases h : y = x
            · rw [if_pos h, h, mset_s]; rfl
            · rw [if_neg h, mset_j (by omega)]; exact hS y hy
          · intro y hy hyi
            rw [hmem]
            by_cases h : y = x
            · rw [if_pos h]
              exact ⟨fun q => by omega, fun q => absurd h q.2⟩
            · rw [if_neg h, hS0 y hy]
              exact ⟨fun q => ⟨q, h⟩, fun q => q.1⟩
          · intro a j h1 _ _ h4 h5
            exact f4 a j h4 h1 (fun q => h5 ⟨q.1, Or.inr q.2⟩)
        have hG3 : mset M1 916 (x + 1) 0 902 20 = sI G := by rw [mset_k (by decide)]; exact hG
        rw [hG3]
        by_cases h500 : 500 ≤ G
        · rw [if_pos (by rw [sI_lle (by omega) (by omega)]; exact h500)]
          exact step _ G hG3 hG2 (fun _ _ _ _ => rfl)
        · rw [if_neg (by rw [sI_lle (by omega) (by omega)]; exact h500), mck_s (by omega) (by omega), sI_nn (by omega)]
          refine step _ (G + 1) ?_ (by omega) ?_
          · rw [mset_s, mset_k (by decide), hG3, sI_1]
          · intro a j h1 h2
            rw [mset_n h2, mset_k h1]
  · have hil : i ∈ l := (hS0 i hi).mp (by omega)
    rw [if_neg (by rw [sI_lel (by omega) (by omega)]; omega), mck_s (by omega) (by omega)]
    have fin : ∀ y, wq (fX18_store_b40 fu (sI (i + 1)) y M L) (fun q => q.2 = L ∧ stP A N i p t l sd M q.1 ∧ stF M q.1) := by
      intro y
      unfold fX18_store_b40
      rw [mck_s (by omega) (by omega), sI_nn (by omega)]
      simp only [mlet]
      refine wq_b2 (m_shoot (M := mset M 917 (i + 1) y) (w := 1) hf hN hi (by omega) (okp_f hk (fun j => by rw [mset_k (by decide)]) (fun j => by rw [mset_k (by decide)]) (fun j => by rw [mset_k (by decide)]) (fun j => by rw [mset_k (by decide)])) (by rw [mset_k (by decide)]; exact hC)) ?_
      rintro M2 L2 ⟨rfl, b1, b2⟩
      dsimp only at b1 b2
      refine wq_some ⟨rfl, ⟨l, sd, t, G, Or.inl ⟨hil, rfl⟩, by omega, ?_, hT2, ?_, hG2, ?_, hS0, hs, ?_, ?_⟩, ?_⟩
      all_goals (try dsimp only)
      · try dsimp only
        rw [b2 _ _ (by omega), mset_k (by decide)]; exact hT
      · try dsimp only
        rw [b2 _ _ (by omega), mset_k (by decide)]; exact hG
      · intro x hx
        try dsimp only
        rw [b2 _ _ (by omega), mset_k (by decide)]; exact hS x hx
      · intro _
        refine ⟨?_, fun _ => ?_, fun h => absurd hil h⟩
        all_goals (try dsimp only)
        · try dsimp only
          rw [show 8 * (i + 1) + 5 = 8 * (i + 1) + 4 * 1 + 1 by omega, b1, mset_k (by decide)]
        · try dsimp only
          rw [b2 _ _ (by omega), mset_k (by decide)]
      · intro j hj
        try dsimp only
        rw [b2 _ _ (by omega), mset_k (by decide)]
      · intro a j _ h2 h3 _ _
        try dsimp only
        rw [b2 _ _ (by omega), mset_k h2]
    split
    · exact fin _
    · rw [mck_s (by omega) (by omega)]
      exact fin _
