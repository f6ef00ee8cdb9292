/-! what holds stays: a message begins -/
theorem mk_r {n : Nat → Nat → Nat} {kd m sq i j : Nat} (h : i ≠ 0 ∨ j ≠ 1) (h2 : ¬ (10 ≤ i ∧ i ≤ 12)) : mkN n kd m sq i j = n i j := by
  unfold mkN
  rw [mset_n (by omega), mset_n (by omega), mset_n (by omega), mset_n (by omega)]
theorem mk_F {n : Nat → Nat → Nat} {kd m sq : Nat} : mkN n kd m sq 0 1 = n 0 1 + 1 := by
  unfold mkN
  rw [mset_s]
theorem mk_o {n : Nat → Nat → Nat} {kd m sq i j : Nat} (h : i ≠ 0) (h2 : j ≠ n 0 1) : mkN n kd m sq i j = n i j := by
  unfold mkN
  rw [mset_n (by omega), mset_n (by omega), mset_n (by omega), mset_n (by omega)]
theorem mk_10 {n : Nat → Nat → Nat} {kd m sq : Nat} : mkN n kd m sq 10 (n 0 1) = kd := by
  unfold mkN
  rw [mset_n (by omega), mset_n (by omega), mset_n (by omega), mset_s]
theorem mk_11 {n : Nat → Nat → Nat} {kd m sq : Nat} : mkN n kd m sq 11 (n 0 1) = m := by
  unfold mkN
  rw [mset_n (by omega), mset_n (by omega), mset_s]
theorem mk_12 {n : Nat → Nat → Nat} {kd m sq : Nat} : mkN n kd m sq 12 (n 0 1) = sq := by
  unfold mkN
  rw [mset_n (by omega), mset_s]
theorem mkB_r {n : Nat → Nat → Nat} {b : Nat → Nat → Bool} {i j : Nat} (h : i ≠ 1) : mkB n b i j = b i j := by
  unfold mkB
  rw [mset_n (by omega)]
theorem mkB_o {n : Nat → Nat → Nat} {b : Nat → Nat → Bool} {i j : Nat} (h : j ≠ n 0 1) : mkB n b i j = b i j := by
  unfold mkB
  rw [mset_n (by omega)]
theorem mkB_F {n : Nat → Nat → Nat} {b : Nat → Nat → Bool} : mkB n b 1 (n 0 1) = false := by
  unfold mkB
  rw [mset_s]
/-- a frame more: what must hold of it -/
def FrV (n : Nat → Nat → Nat) (b : Nat → Nat → Bool) (kd m sq : Nat) : Prop := kd ≤ 3 ∧ 1 ≤ m ∧ m ≤ n 0 0 ∧ n 3 m ≠ 0 ∧ (kd = 0 → n 2 m ≤ 7) ∧ (kd ≠ 0 → 8 ≤ n 2 m) ∧ (kd = 2 → 1 ≤ sq ∧ 6 + 7 * (sq - 1) < n 2 m) ∧ (kd ≠ 2 → sq = 0) ∧ (kd = 1 → b 3 m = false ∧ ∀ f, f < n 0 1 → n 10 f = 1 → n 11 f ≠ m)
/-- all but the count of frames -/
def TfW (n : Nat → Nat → Nat) (b : Nat → Nat → Bool) : Prop :=
  (n 0 0 ≤ 100 ∧ n 0 2 ≤ n 0 1 ∧ n 0 3 ≤ 20000 ∧ n 0 4 ≤ n 0 0) ∧
  (∀ m, 1 ≤ m → m ≤ n 0 0 → n 1 m < 6 ∧ 1 ≤ n 2 m ∧ n 2 m ≤ 100 ∧ n 3 m ≤ 4 ∧ n 4 m ≤ n 0 3 ∧ (n 3 m = 1 ∨ n 3 m = 2 → 8 ≤ n 2 m) ∧ (m ≤ n 0 4 → 3 ≤ n 3 m) ∧ (b 3 m = true → n 3 m ≠ 0)) ∧
  (∀ r, r < 4 → n 5 r ≤ 3 ∧ (n 5 r = 1 → 1 ≤ n 6 r ∧ n 6 r ≤ n 0 0 ∧ n 6 r % 4 = r ∧ 1 ≤ n 8 r ∧ n 8 r ≤ 15 ∧ n 7 r = 6 + 7 * (n 8 r - 1) ∧ n 7 r < n 2 (n 6 r) ∧ n 9 r ≤ n 0 3)) ∧
  ∀ f, f < n 0 1 → n 10 f ≤ 3 ∧ 1 ≤ n 11 f ∧ n 11 f ≤ n 0 0 ∧ n 3 (n 11 f) ≠ 0 ∧ (n 10 f = 0 → n 2 (n 11 f) ≤ 7) ∧ (n 10 f ≠ 0 → 8 ≤ n 2 (n 11 f)) ∧ (n 10 f = 2 → 1 ≤ n 12 f ∧ 6 + 7 * (n 12 f - 1) < n 2 (n 11 f)) ∧ (n 10 f ≠ 2 → n 12 f = 0) ∧ (n 10 f = 1 → (b 1 f = false → b 3 (n 11 f) = false) ∧ ∀ f', f' < n 0 1 → n 10 f' = 1 → n 11 f' = n 11 f → f' = f)
theorem TfV_W {n : Nat → Nat → Nat} {b : Nat → Nat → Bool} : TfV n b ↔ TfW n b ∧ n 0 1 ≤ suN (cbF n b) (n 0 0) := by
  constructor
  · rintro ⟨⟨h1, h2, h3, h4, h5⟩, h6, h7, h8⟩
    exact ⟨⟨⟨h1, h2, h3, h4⟩, h6, h7, h8⟩, h5⟩
  · rintro ⟨⟨⟨h1, h2, h3, h4⟩, h6, h7, h8⟩, h5⟩
    exact ⟨⟨h1, h2, h3, h4, h5⟩, h6, h7, h8⟩
theorem W_mk {n : Nat → Nat → Nat} {b : Nat → Nat → Bool} {kd m sq : Nat} (h : TfW n b) (hf : FrV n b kd m sq) : TfW (mkN n kd m sq) (mkB n b) := by
  obtain ⟨⟨h1, h2, h3, h4⟩, h6, h7, h8⟩ := h
  obtain ⟨g1, g2, g3, g4, g5, g6, g7, g8, g9⟩ := hf
  refine ⟨⟨?_, ?_, ?_, ?_⟩, ?_, ?_, ?_⟩
  · rw [mk_r (by omega) (by omega)]; exact h1
  · rw [mk_r (by omega) (by omega), mk_F]; omega
  · rw [mk_r (by omega) (by omega)]; exact h3
  · rw [mk_r (by omega) (by omega), mk_r (by omega) (by omega)]; exact h4
  · intro j u1 u2
    rw [mk_r (by omega) (by omega)] at u2
    rw [mk_r (by omega) (by omega), mk_r (by omega) (by omega), mk_r (by omega) (by omega), mk_r (by omega) (by omega), mk_r (by omega) (by omega), mk_r (by omega) (by omega), mkB_r (by omega)]
    exact h6 j u1 u2
  · intro r u
    have := h7 r u
    rw [mk_r (by omega) (by omega), mk_r (by omega) (by omega), mk_r (by omega) (by omega), mk_r (by omega) (by omega), mk_r (by omega) (by omega), mk_r (by omega) (by omega), mk_r (by omega) (by omega), mk_r (by omega) (by omega)]
    exact this
  · intro f u
    rw [mk_F] at u
    have e0 : mkN n kd m sq 0 0 = n 0 0 := mk_r (by omega) (by omega)
    have e2 : ∀ j, mkN n kd m sq 2 j = n 2 j := fun j => mk_r (by omega) (by omega)
    have e3 : ∀ j, mkN n kd m sq 3 j = n 3 j := fun j => mk_r (by omega) (by omega)
    rw [e0, e2, e3, mkB_r (b := b) (show (3 : Nat) ≠ 1 by omega)]
    by_cases hq : f = n 0 1
    · subst hq
      rw [mk_10, mk_11, mk_12, mkB_F]
      refine ⟨g1, g2, g3, g4, g5, g6, g7, g8, fun hk => ⟨fun _ => (g9 hk).1, fun f' v1 v2 v3 => ?_⟩⟩
      rw [mk_F] at v1
      by_cases hq2 : f' = n 0 1
      · exact hq2
      · rw [mk_o (by omega) hq2] at v2 v3
        exact absurd v3 ((g9 hk).2 f' (by omega) v2)
    · have := h8 f (by omega)
      rw [mk_o (i := 10) (by omega) hq, mk_o (i := 11) (by omega) hq, mk_o (i := 12) (by omega) hq, mkB_o hq]
      refine ⟨this.1, this.2.1, this.2.2.1, this.2.2.2.1, this.2.2.2.2.1, this.2.2.2.2.2.1, this.2.2.2.2.2.2.1, this.2.2.2.2.2.2.2.1, fun hk => ⟨(this.2.2.2.2.2.2.2.2 hk).1, fun f' v1 v2 v3 => ?_⟩⟩
      rw [mk_F] at v1
      by_cases hq2 : f' = n 0 1
      · exfalso
        subst hq2
        rw [mk_10] at v2
        rw [mk_11] at v3
        exact (g9 v2).2 f (by omega) hk v3.symm
      · rw [mk_o (by omega) hq2] at v2 v3
        exact (this.2.2.2.2.2.2.2.2 hk).2 f' (by omega) v2 v3
theorem V_bg {n : Nat → Nat → Nat} {b : Nat → Nat → Bool} {m : Nat} (h : TfV n b) (h1 : 1 ≤ m) (h2 : m ≤ n 0 0) (h0 : n 3 m = 0) : TfV (bgN n m) (mkB n b) := by
  obtain ⟨hW, hs⟩ := TfV_W.mp h
  have hm := hW.2.1 m h1 h2
  have hb3 : b 3 m = false := by
    by_cases hx : b 3 m = true
    · exact absurd h0 (hm.2.2.2.2.2.2.2 hx)
    · simpa using hx
  obtain ⟨⟨w1, w2, w3, w4⟩, w6, w7, w8⟩ := hW
  have hS : ¬ m ≤ n 0 4 := fun z => by have := hm.2.2.2.2.2.2.1 z; omega
  -- first the state, then the frame
  obtain ⟨n1, hn1⟩ : ∃ n1, n1 = mset (mset n 3 m (if n 2 m ≤ 7 then 3 else 1)) 4 m (n 0 3) := ⟨_, rfl⟩
  have f3 : ∀ j, n1 3 j = if j = m then (if n 2 m ≤ 7 then 3 else 1) else n 3 j := by
    intro j
    rw [hn1, mset_n (by omega)]
    by_cases hq : j = m
    · rw [hq, mset_s, if_pos rfl]
    · rw [mset_j hq, if_neg hq]
  have f4 : ∀ j, n1 4 j = if j = m then n 0 3 else n 4 j := by
    intro j
    rw [hn1]
    by_cases hq : j = m
    · rw [hq, mset_s, if_pos rfl]
    · rw [mset_j hq, mset_n (by omega), if_neg hq]
  have fo : ∀ i j, i ≠ 3 → i ≠ 4 → n1 i j = n i j := by
    intro i j u1 u2
    rw [hn1, mset_n (by omega), mset_n (by omega)]
  have W1 : TfW n1 b := by
    refine ⟨?_, ?_, ?_, ?_⟩
    · rw [fo 0 0 (by omega) (by omega), fo 0 1 (by omega) (by omega), fo 0 2 (by omega) (by omega), fo 0 3 (by omega) (by omega), fo 0 4 (by omega) (by omega)]
      exact ⟨w1, w2, w3, w4⟩
    · intro j u1 u2
      rw [fo 0 0 (by omega) (by omega)] at u2
      have := w6 j u1 u2
      rw [fo 1 j (by omega) (by omega), fo 2 j (by omega) (by omega), fo 0 3 (by omega) (by omega), fo 0 4 (by omega) (by omega), f3, f4]
      by_cases hq : j = m
      · subst hq
        rw [if_pos rfl, if_pos rfl]
        refine ⟨this.1, this.2.1, this.2.2.1, ?_, Nat.le_refl _, ?_, fun z => absurd z hS, ?_⟩
        · split <;> omega
        · intro z
          by_cases h7 : n 2 j ≤ 7
          · rw [if_pos h7] at z; omega
          · omega
        · intro _
          split <;> omega
      · rw [if_neg hq, if_neg hq]
        exact this
    · intro r u
      rw [fo 5 r (by omega) (by omega), fo 6 r (by omega) (by omega), fo 7 r (by omega) (by omega), fo 8 r (by omega) (by omega), fo 9 r (by omega) (by omega), fo 0 0 (by omega) (by omega), fo 0 3 (by omega) (by omega), fo 2 _ (by omega) (by omega)]
      exact w7 r u
    · intro f u
      rw [fo 0 1 (by omega) (by omega)] at u
      have := w8 f u
      rw [fo 10 f (by omega) (by omega), fo 11 f (by omega) (by omega), fo 12 f (by omega) (by omega), fo 0 0 (by omega) (by omega), fo 0 1 (by omega) (by omega), fo 2 _ (by omega) (by omega), f3]
      have hne : n 11 f ≠ m := fun z => by
        have h4 := this.2.2.2.1
        rw [z] at h4
        exact h4 h0
      rw [if_neg hne]
      refine ⟨this.1, this.2.1, this.2.2.1, this.2.2.2.1, this.2.2.2.2.1, this.2.2.2.2.2.1, this.2.2.2.2.2.2.1, this.2.2.2.2.2.2.2.1, fun hk => ⟨(this.2.2.2.2.2.2.2.2 hk).1, fun f' v1 v2 v3 => ?_⟩⟩
      rw [fo 10 f' (by omega) (by omega)] at v2
      rw [fo 11 f' (by omega) (by omega)] at v3
      exact (this.2.2.2.2.2.2.2.2 hk).2 f' v1 v2 v3
  have hF1 : n1 0 1 = n 0 1 := fo 0 1 (by omega) (by omega)
  have eN : bgN n m = mkN n1 (if n 2 m ≤ 7 then 0 else 1) m 0 := by
    funext i j
    unfold bgN mkN
    rw [hF1, hn1]
    unfold mset
    by_cases a1 : i = 4 ∧ j = m
    · rw [if_pos a1, if_neg (by omega), if_neg (by omega), if_neg (by omega), if_neg (by omega), if_pos a1]
    · rw [if_neg a1]
      by_cases a2 : i = 3 ∧ j = m
      · rw [if_pos a2, if_neg (show ¬ (i = 0 ∧ j = 1) by omega), if_neg (show ¬ (i = 12 ∧ j = n 0 1) by omega), if_neg (show ¬ (i = 11 ∧ j = n 0 1) by omega), if_neg (show ¬ (i = 10 ∧ j = n 0 1) by omega), if_neg a1, if_pos a2]
      · rw [if_neg a2, if_neg a1, if_neg a2]
  have eB : mkB n b = mkB n1 b := by
    unfold mkB
    rw [hF1]
  have hFr : FrV n1 b (if n 2 m ≤ 7 then 0 else 1) m 0 := by
    refine ⟨by split <;> omega, h1, ?_, ?_, ?_, ?_, ?_, fun _ => rfl, fun _ => ⟨hb3, fun f u v => ?_⟩⟩
    · rw [fo 0 0 (by omega) (by omega)]; exact h2
    · rw [f3, if_pos rfl]
      split <;> omega
    · intro z
      rw [fo 2 m (by omega) (by omega)]
      by_cases h7 : n 2 m ≤ 7
      · exact h7
      · rw [if_neg h7] at z; omega
    · intro z
      rw [fo 2 m (by omega) (by omega)]
      by_cases h7 : n 2 m ≤ 7
      · rw [if_pos h7] at z; omega
      · omega
    · intro z
      split at z <;> omega
    · rw [fo 0 1 (by omega) (by omega)] at u
      rw [fo 11 f (by omega) (by omega)]
      intro z
      have h4 := (w8 f u).2.2.2.1
      rw [z] at h4
      exact h4 h0
  rw [TfV_W]
  refine ⟨?_, ?_⟩
  · rw [eN, eB]
    exact W_mk W1 hFr
  · have hK : bgN n m 0 0 = n 0 0 := by
      rw [eN, mk_r (by omega) (by omega)]; exact fo 0 0 (by omega) (by omega)
    have hF : bgN n m 0 1 = n 0 1 + 1 := by
      rw [eN, mk_F, hF1]
    rw [hK, hF]
    have e2 : ∀ j, bgN n m 2 j = n 2 j := fun j => by rw [eN, mk_r (by omega) (by omega)]; exact fo 2 j (by omega) (by omega)
    have e3 : ∀ j, bgN n m 3 j = if j = m then (if n 2 m ≤ 7 then 3 else 1) else n 3 j := fun j => by rw [eN, mk_r (by omega) (by omega)]; exact f3 j
    have eb3 : ∀ j, mkB n b 3 j = b 3 j := fun j => mkB_r (by omega)
    have := su_1 (g := cbF n b) (h := cbF (bgN n m) (mkB n b)) (j := m) (d := 1) (n 0 0) h1 h2 (fun j u1 u2 u3 => ?_) ?_
    · omega
    · unfold cbF
      rw [e2, e3, eb3, if_neg u3]
    · unfold cbF
      rw [e2, e3, eb3, if_pos rfl, hb3, h0]
      by_cases h7 : n 2 m ≤ 7
      · rw [if_pos h7]
        simp
        omega
      · rw [if_neg h7]
        simp
