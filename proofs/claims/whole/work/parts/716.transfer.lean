/-! the reference: the clock goes on -/
theorem TfM_fr {M M' : mwM} {L L' : mwL} {τ : Nat} {n : Nat → Nat → Nat} {b : Nat → Nat → Bool} {o : Nat → Nat → Nat} {e : Nat → Nat} (h : TfM M L τ n b o e) (hA : ∀ a y, 869 ≤ a → a ≤ 901 → a ≠ 900 → ¬ (a = 869 ∧ (y = 0 ∨ y = 40)) → M' a y = M a y) (hL : ∀ a y, 869 ≤ a → a ≤ 901 → L' a y = L a y) : TfM M' L' τ n b o e := by
  obtain ⟨k1, k2, k3, k4, k5, k6, k7⟩ := h
  refine ⟨?_, ?_, ?_, ?_, ?_, ?_, ?_⟩
  · unfold TmG
    rw [hA 869 1 (by omega) (by omega) (by omega) (by omega), hA 869 3 (by omega) (by omega) (by omega) (by omega), hA 869 26 (by omega) (by omega) (by omega) (by omega), hA 869 35 (by omega) (by omega) (by omega) (by omega), hA 869 36 (by omega) (by omega) (by omega) (by omega), hA 869 37 (by omega) (by omega) (by omega) (by omega), hA 869 39 (by omega) (by omega) (by omega) (by omega), hL 869 2 (by omega) (by omega)]
    exact k1
  · intro j u
    rw [hA 870 _ (by omega) (by omega) (by omega) (by omega)]
    exact k2 j u
  · intro j u1 u2
    have t := k3 j u1 u2
    refine ⟨fun i u => ?_, ?_⟩
    · rw [hA 871 _ (by omega) (by omega) (by omega) (by omega)]
      exact t.1 i u
    · unfold TmS
      rw [hA 872 _ (by omega) (by omega) (by omega) (by omega), hA 873 _ (by omega) (by omega) (by omega) (by omega), hA 874 _ (by omega) (by omega) (by omega) (by omega), hA 875 _ (by omega) (by omega) (by omega) (by omega), hA 876 _ (by omega) (by omega) (by omega) (by omega), hA 878 _ (by omega) (by omega) (by omega) (by omega), hL 880 _ (by omega) (by omega), hL 881 _ (by omega) (by omega)]
      exact t.2
  · intro j u1 u2
    rw [hA 872 _ (by omega) (by omega) (by omega) (by omega), hA 873 _ (by omega) (by omega) (by omega) (by omega), hA 875 _ (by omega) (by omega) (by omega) (by omega)]
    exact k4 j u1 u2
  · intro r u
    have t := k5 r u
    unfold TmR
    rw [hA 882 _ (by omega) (by omega) (by omega) (by omega), hA 883 _ (by omega) (by omega) (by omega) (by omega), hA 884 _ (by omega) (by omega) (by omega) (by omega), hA 885 _ (by omega) (by omega) (by omega) (by omega), hA 886 _ (by omega) (by omega) (by omega) (by omega), hA 887 _ (by omega) (by omega) (by omega) (by omega), hA 890 _ (by omega) (by omega) (by omega) (by omega), hL 889 _ (by omega) (by omega)]
    refine ⟨t.1, fun z => ?_⟩
    have t2 := t.2 z
    refine ⟨t2.1, t2.2.1, t2.2.2.1, t2.2.2.2.1, t2.2.2.2.2.1, t2.2.2.2.2.2.1, t2.2.2.2.2.2.2.1, fun i u => ?_⟩
    rw [hA 891 _ (by omega) (by omega) (by omega) (by omega)]
    exact t2.2.2.2.2.2.2.2 i u
  · intro f u
    have t := k6 f u
    unfold TmF
    rw [hA 892 _ (by omega) (by omega) (by omega) (by omega), hA 893 _ (by omega) (by omega) (by omega) (by omega), hA 894 _ (by omega) (by omega) (by omega) (by omega), hA 895 _ (by omega) (by omega) (by omega) (by omega), hA 896 _ (by omega) (by omega) (by omega) (by omega), hA 898 _ (by omega) (by omega) (by omega) (by omega)]
    refine ⟨t.1, t.2.1, t.2.2.1, t.2.2.2.1, t.2.2.2.2.1, t.2.2.2.2.2.1, fun k u => ?_⟩
    rw [hA 899 _ (by omega) (by omega) (by omega) (by omega)]
    exact t.2.2.2.2.2.2 k u
  · intro k u
    rw [hA 901 _ (by omega) (by omega) (by omega) (by omega)]
    exact k7 k u
/-- the same state, but for what the class alone has; no message is being sent, or the time is the same -/
theorem TfM_E {M : mwM} {L L' : mwL} {τ τ' : Nat} {n n' : Nat → Nat → Nat} {b : Nat → Nat → Bool} {o : Nat → Nat → Nat} {e : Nat → Nat} (h : TfM M L τ n b o e) (h0 : ∀ i j, ¬ (i = 0 ∧ (j = 3 ∨ j = 4)) → n' i j = n i j) (hL : ∀ a y, a ≠ 869 → L' a y = L a y) (hτ : L' 869 2 = sL τ') (h2 : ∀ m, 1 ≤ m → m ≤ n 0 0 → n 3 m = 2 → τ' = τ) : TfM M L' τ' n' b o e := by
  refine TfM_ch h (fun _ _ _ => rfl) hτ (fun i j u v => h0 i j v) (fun m u v => ?_) h.2.2.2.1 (fun r u => ?_) (fun f u => (h.2.2.2.2.2.1 f u).2.2.2.2.2.1) h.2.2.2.2.2.2
  · have t := (h.2.2.1 m u v).2
    unfold TmS at t ⊢
    rw [h0 3 m (by omega), h0 4 m (by omega), hL 880 m (by omega), hL 881 m (by omega)]
    exact ⟨t.1, t.2.1, t.2.2.1, t.2.2.2.1, t.2.2.2.2.1, fun z => by rw [h2 m u v z]; exact t.2.2.2.2.2 z⟩
  · have t := h.2.2.2.2.1 r u
    unfold TmR at t ⊢
    rw [h0 5 r (by omega), h0 6 r (by omega), h0 7 r (by omega), h0 8 r (by omega), h0 9 r (by omega), h0 2 _ (by omega), hL 889 r (by omega)]
    exact t
def TfT (n : Nat → Nat → Nat) (τ : Nat) : Prop := (∀ m, 1 ≤ m → m ≤ n 0 0 → n 3 m = 1 → n 4 m ≤ τ ∧ τ < n 4 m + 1000) ∧ ∀ r, r < 4 → n 5 r = 1 → n 9 r ≤ τ ∧ τ < n 9 r + 1000
theorem m_sum17 {fu : Nat} {M : mwM} {L : mwL} (hfu : 10 ≤ fu) : wq (DX17_sum fu M L) (fun z => z.2.1 = M ∧ z.2.2 = L) := by
  unfold DX17_sum
  refine wq_for (body := fun r z => fX17_sum_i4 fu r z.1 z.2.1 z.2.2.1 z.2.2.2) (fun i (v : Int32) => (v, sI (i + 1), M, L)) (fun _ _ => True) 7 ?_ ?_ 7 0 0 fu (by omega) (by omega) trivial
  · intro i v r hi _ ih
    show wq (fX17_sum_i4 fu r v (sI (i + 1)) M L) _
    unfold fX17_sum_i4
    rw [if_neg (by rw [sI_lle (by decide) (by omega)]; omega), mck_s (by omega) (by omega)]
    simp only [mlet]
    rw [sI_1]
    exact ih _ trivial
  · intro v r _
    show wq (fX17_sum_i4 fu r v (sI (7 + 1)) M L) _
    unfold fX17_sum_i4
    rw [if_pos (by decide)]
    exact wq_some ⟨rfl, rfl⟩
theorem bA_3c : ∀ k p m, 1 ≤ m → m ≤ k → (bgA k p).1 3 m = 1 → (p.1 3 m = 1 ∧ (bgA k p).1 4 m = p.1 4 m) ∨ (bgA k p).1 4 m = p.1 0 3 := by
  intro k
  induction k with
  | zero => intro p m h1 h2; omega
  | succ k ih =>
    intro p m h1 h2
    have e : bgA (k + 1) p = if (bgA k p).1 3 (k + 1) = 0 then (bgN (bgA k p).1 (k + 1), mkB (bgA k p).1 (bgA k p).2) else bgA k p := rfl
    have hi : ∀ j, k < j → ∀ i, i = 3 ∨ i = 4 → (bgA k p).1 i j = p.1 i j := by
      intro j hj i hi
      clear e ih h1 h2
      induction k with
      | zero => rfl
      | succ k ih2 =>
        have e2 : bgA (k + 1) p = if (bgA k p).1 3 (k + 1) = 0 then (bgN (bgA k p).1 (k + 1), mkB (bgA k p).1 (bgA k p).2) else bgA k p := rfl
        rw [e2]
        split
        · dsimp only
          unfold bgN
          rw [mset_n (by omega), mset_n (by omega), mk_r (by omega) (by omega)]
          exact ih2 (by omega)
        · exact ih2 (by omega)
    have h03 : (bgA k p).1 0 3 = p.1 0 3 := bA_r (by omega) (by omega) (by omega) (by omega) _ _
    rw [e]
    split
    · dsimp only
      by_cases hq : m = k + 1
      · subst hq
        intro _
        right
        unfold bgN
        rw [mset_s]; exact h03
      · unfold bgN
        rw [mset_n (by omega), mset_n (by omega), mset_n (by omega), mset_j hq, mk_r (by omega) (by omega), mk_r (by omega) (by omega)]
        exact ih p m h1 (by omega)
    · by_cases hq : m = k + 1
      · subst hq
        intro z
        left
        rw [hi _ (by omega) 3 (by omega)] at z
        exact ⟨z, hi _ (by omega) 4 (by omega)⟩
      · exact ih p m h1 (by omega)
theorem T_bg {p : PB} (h : TfT p.1 (p.1 0 3)) : TfT (bgA (p.1 0 0) p).1 (p.1 0 3) := by
  refine ⟨fun m u1 u2 z => ?_, fun r u z => ?_⟩
  · rw [bA_r (by omega) (by omega) (by omega) (by omega)] at u2
    rcases bA_3c _ p m u1 u2 z with ⟨a1, a2⟩ | a
    · rw [a2]; exact h.1 m u1 u2 a1
    · rw [a]; omega
  · rw [bA_r (by omega) (by omega) (by omega) (by omega)] at z ⊢
    exact h.2 r u z
theorem go_1 {m t : Nat} {p : PB} {j : Nat} (h : (goP m t p).1 3 j = 1) : p.1 3 j = 1 ∧ (j = m → t - p.1 4 m < 1000) := by
  unfold goP at h
  split at h
  · dsimp only at h
    by_cases hq : j = m
    · rw [hq, mset_s] at h; omega
    · rw [mset_j hq, co_r (by omega) (by omega)] at h
      exact ⟨h, fun z => absurd z hq⟩
  · split at h
    · dsimp only at h
      by_cases hq : j = m
      · rw [hq, mset_s] at h; omega
      · rw [mset_j hq] at h
        exact ⟨h, fun z => absurd z hq⟩
    · rename_i h1 h2
      refine ⟨h, fun z => ?_⟩
      subst z
      by_cases hc : 1000 ≤ t - p.1 4 j
      · exact absurd ⟨h, hc⟩ h2
      · omega
theorem gA_1 {t : Nat} : ∀ k (p : PB) (j : Nat), (goA t k p).1 3 j = 1 → p.1 3 j = 1 ∧ (1 ≤ j → j ≤ k → t - p.1 4 j < 1000) := by
  intro k
  induction k with
  | zero => intro p j h; exact ⟨h, fun _ _ => by omega⟩
  | succ k ih =>
    intro p j h
    have h' : (goP (k + 1) t (goA t k p)).1 3 j = 1 := h
    have a := go_1 h'
    have b := ih p j a.1
    refine ⟨b.1, fun u v => ?_⟩
    by_cases hq : j = k + 1
    · have := a.2 hq
      rw [← hq, gA_r (by omega) (by omega) (by omega)] at this
      exact this
    · exact b.2 u (by omega)
theorem rA_5 {t : Nat} : ∀ k (p : PB) (r : Nat), (rcA t k p).1 5 r = 1 → p.1 5 r = 1 ∧ (r < k → t - p.1 9 r < 1000) := by
  intro k
  induction k with
  | zero => intro p r h; exact ⟨h, fun _ => by omega⟩
  | succ k ih =>
    intro p r h
    have h' : (rcS t k (rcA t k p)).1 5 r = 1 := h
    unfold rcS at h'
    split at h'
    · dsimp only at h'
      by_cases hq : r = k
      · rw [hq, mset_s] at h'; omega
      · rw [mset_j hq] at h'
        have := ih p r h'
        exact ⟨this.1, fun u => this.2 (by omega)⟩
    · rename_i hn
      have := ih p r h'
      refine ⟨this.1, fun u => ?_⟩
      by_cases hq : r = k
      · subst hq
        rw [rA_r (i := 9) (by omega)] at hn
        by_cases hc : 1000 ≤ t - p.1 9 r
        · exact absurd ⟨h', hc⟩ hn
        · omega
      · exact this.2 (by omega)
theorem tk_r {t i j : Nat} {p : PB} (h0 : ¬ (i = 0 ∧ (j = 3 ∨ j = 4))) (h5 : i ≠ 5) : (tkP t p).1 i j = (goA t (p.1 0 0) (bgA (p.1 0 0) p)).1 i j := by
  unfold tkP clP
  dsimp only
  rw [mset_n (by omega), rA_r h5]
  unfold seP
  dsimp only
  rw [mset_n (by omega)]
theorem tk_5 {t r : Nat} {p : PB} : (tkP t p).1 5 r = (rcA t 4 (goA t (p.1 0 0) (bgA (p.1 0 0) p))).1 5 r ∧ (tkP t p).2 = (rcA t 4 (goA t (p.1 0 0) (bgA (p.1 0 0) p))).2 := by
  have key : ∀ k (q q' : PB), (∀ i j, i ≠ 0 → q.1 i j = q'.1 i j) → q.2 = q'.2 → (∀ i j, i ≠ 0 → (rcA t k q).1 i j = (rcA t k q').1 i j) ∧ (rcA t k q).2 = (rcA t k q').2 := by
    intro k
    induction k with
    | zero => intro q q' h1 h2; exact ⟨h1, h2⟩
    | succ k ih =>
      intro q q' h1 h2
      obtain ⟨i1, i2⟩ := ih q q' h1 h2
      show (∀ i j, i ≠ 0 → (rcS t k (rcA t k q)).1 i j = (rcS t k (rcA t k q')).1 i j) ∧ (rcS t k (rcA t k q)).2 = (rcS t k (rcA t k q')).2
      generalize rcA t k q = x at *
      generalize rcA t k q' = x' at *
      unfold rcS
      rw [i1 5 k (by omega), i1 9 k (by omega), i2]
      split
      · refine ⟨fun i j u => ?_, rfl⟩
        dsimp only
        by_cases hc : i = 5 ∧ j = k
        · rw [hc.1, hc.2, mset_s, mset_s]
        · rw [mset_n hc, mset_n hc]; exact i1 i j u
      · exact ⟨i1, i2⟩
  have hk := key 4 (seP (goA t (p.1 0 0) (bgA (p.1 0 0) p))) (goA t (p.1 0 0) (bgA (p.1 0 0) p)) (fun i j u => by unfold seP; dsimp only; rw [mset_n (by omega)]) rfl
  unfold tkP clP
  dsimp only
  rw [mset_n (by omega)]
  exact ⟨hk.1 5 r (by omega), hk.2⟩
theorem T_tk {t : Nat} {p : PB} (ht : t = p.1 0 3 + 1) (h : TfT p.1 (p.1 0 3)) : TfT (tkP t p).1 t := by
  have hb := T_bg h
  refine ⟨fun m u1 u2 z => ?_, fun r u z => ?_⟩
  · rw [tk_r (by omega) (by omega), gA_r (by omega) (by omega) (by omega), bA_r (by omega) (by omega) (by omega) (by omega)] at u2
    rw [tk_r (by omega) (by omega)] at z
    rw [tk_r (by omega) (by omega), gA_r (by omega) (by omega) (by omega)]
    have a := gA_1 _ _ m z
    have a2 := a.2 u1 u2
    have a3 := hb.1 m u1 (by rw [bA_r (by omega) (by omega) (by omega) (by omega)]; exact u2) a.1
    omega
  · rw [tk_5.1] at z
    have a := rA_5 4 _ r z
    have a2 := a.2 u
    have a1 := a.1
    rw [gA_r (by omega) (by omega) (by omega)] at a1 a2
    have a3 := hb.2 r u a1
    rw [tk_r (by omega) (by omega), gA_r (by omega) (by omega) (by omega)]
    omega
theorem m_tick17 {fu t : Nat} {M : mwM} {L : mwL} {p : PB} {o : Nat → Nat → Nat} {e : Nat → Nat} (hfu : 200 ≤ fu) (hv : TfV p.1 p.2) (hT : TfT p.1 (p.1 0 3)) (h : TfM M L (p.1 0 3) p.1 p.2 o e) (ht : t = p.1 0 3 + 1) (ht2 : t ≤ 20000) : wq (DX17_tick fu (sL t) M L) (fun z => ∃ e', TfM z.2.1 z.2.2 t (tkP t p).1 (tkP t p).2 o e' ∧ eR 208 e p.2 e' (tkP t p).2 ∧ mFr M z.2.1 ∧ lFr L z.2.2) := by
  have hK := hv.1.1
  have vB := bA_V (p.1 0 0) p (Nat.le_refl _) hv
  have kB : (bgA (p.1 0 0) p).1 0 0 = p.1 0 0 := bA_r (by omega) (by omega) (by omega) (by omega) _ _
  have tB := T_bg hT
  generalize hQ : (fun z : Int32 × mwM × mwL => ∃ e', TfM z.2.1 z.2.2 t (tkP t p).1 (tkP t p).2 o e' ∧ eR 208 e p.2 e' (tkP t p).2 ∧ mFr M z.2.1 ∧ lFr L z.2.2) = Q
  -- all have begun
  have moments : ∀ (v : Int32) (M1 : mwM) (L1 : mwL), TfM M1 L1 (p.1 0 3) (bgA (p.1 0 0) p).1 (bgA (p.1 0 0) p).2 o e → mFr M M1 → lFr L L1 → wq (mb2 (DX17_moment fu M1 L1) (fun M2 L3 => fX17_tick_h73 fu (sL t) fu (v, M2, L3))) Q := by
    intro v M1 L1 T1 f1 f2
    have b20 : (bgA (p.1 0 0) p).2 2 0 = p.2 2 0 := by
      have : ∀ k, (bgA k p).2 2 0 = p.2 2 0 := by
        intro k
        induction k with
        | zero => rfl
        | succ k ih =>
          have e2 : bgA (k + 1) p = if (bgA k p).1 3 (k + 1) = 0 then (bgN (bgA k p).1 (k + 1), mkB (bgA k p).1 (bgA k p).2) else bgA k p := rfl
          rw [e2]
          split
          · exact (mkB_r (n := (bgA k p).1) (by omega)).trans ih
          · exact ih
      exact this _
    have etk1 : ∀ i j, ¬ (i = 0 ∧ (j = 3 ∨ j = 4)) → (tkP t p).1 i j = (rcA t 4 (goA t (p.1 0 0) (bgA (p.1 0 0) p))).1 i j := by
      intro i j u
      by_cases h5 : i = 5
      · rw [h5]; exact tk_5.1
      · rw [tk_r u h5, rA_r h5]
    have etk2 : (tkP t p).2 = (rcA t 4 (goA t (p.1 0 0) (bgA (p.1 0 0) p))).2 := (@tk_5 t 0 p).2
    generalize hq : bgA (p.1 0 0) p = q at *
    have m1 := m_moment17 (fu := fu) (by omega) vB T1 (by omega) (fun m u1 u2 z => by have := tB.1 m u1 u2 z; omega) (fun r u z => by have := tB.2 r u z; omega)
    have rno : rcO (p.1 0 3) 4 (goA (p.1 0 3) (q.1 0 0) q) = goA (p.1 0 3) (q.1 0 0) q := by
      refine rcO_no (fun r u z => ?_) 4
      rw [gA_r (by omega) (by omega) (by omega)] at z ⊢
      have := tB.2 r u z
      omega
    rw [rno] at m1
    refine wq_b2 m1 ?_
    rintro M2 L2 ⟨e2, T2, E2, g1, g2⟩
    dsimp only at T2 E2 g1 g2
    have vG := gA_V (t := p.1 0 3) (q.1 0 0) q (Nat.le_refl _) vB
    have two : goA t (q.1 0 0) (goA (p.1 0 3) (q.1 0 0) q) = goA t (q.1 0 0) q := go_two (fun m u1 u2 z => by have := tB.1 m u1 u2 z; omega)
    have n2 : ∀ m, 1 ≤ m → m ≤ q.1 0 0 → (goA (p.1 0 3) (q.1 0 0) q).1 3 m ≠ 2 := fun m u1 u2 => gA_2 u1 u2
    have g4 : ∀ j, (goA (p.1 0 3) (q.1 0 0) q).1 4 j = q.1 4 j := fun j => gA_r (by omega) (by omega) (by omega) _ _
    have g5 : ∀ j, (goA (p.1 0 3) (q.1 0 0) q).1 5 j = q.1 5 j := fun j => gA_r (by omega) (by omega) (by omega) _ _
    have g9 : ∀ j, (goA (p.1 0 3) (q.1 0 0) q).1 9 j = q.1 9 j := fun j => gA_r (by omega) (by omega) (by omega) _ _
    have g0 : (goA (p.1 0 3) (q.1 0 0) q).1 0 0 = q.1 0 0 := gA_r (by omega) (by omega) (by omega) _ _
    have g3 : ∀ j, (goA (p.1 0 3) (q.1 0 0) q).1 3 j = 1 → q.1 3 j = 1 := fun j z => (gA_1 _ _ j z).1
    generalize hg : goA (p.1 0 3) (q.1 0 0) q = q2 at *
    obtain ⟨ff, hff⟩ : ∃ ff, fu = ff + 2 := ⟨fu - 2, by omega⟩
    have e0 : fX17_tick_h73 fu (sL t) fu (v, M2, L2) = fX17_tick_i73 fu (sL t) (fX17_tick_h73 fu (sL t) (ff + 1)) v M2 L2 := by
      show mloop (fun r73 s => fX17_tick_i73 fu (sL t) r73 s.1 s.2.1 s.2.2) fu (v, M2, L2) = _
      have : mloop (fun r73 s => fX17_tick_i73 fu (sL t) r73 s.1 s.2.1 s.2.2) fu (v, M2, L2) = mloop (fun r73 s => fX17_tick_i73 fu (sL t) r73 s.1 s.2.1 s.2.2) (ff + 1 + 1) (v, M2, L2) := by
        congr 1
      rw [this, mloop_S]
      rfl
    rw [e0]
    unfold fX17_tick_i73
    rw [T2.1.2.1, if_neg (by rw [lg_cmp_ge, sL_le (by omega) (by omega)]; omega), sL_1]
    simp only [mlet]
    have T3 : TfM M2 (mset L2 869 2 (sL (p.1 0 3 + 1))) t q2.1 q2.2 o e2 := by
      refine TfM_E T2 (fun _ _ _ => rfl) (fun a y u => mset_n (by omega)) (by rw [mset_s, ht]) (fun m u1 u2 z => ?_)
      exact absurd z (n2 m u1 (by rw [← g0]; exact u2))
    have m2 := m_moment17 (fu := fu) (by omega) vG T3 (by omega) (fun m u1 u2 z => by
      rw [g4]
      have := tB.1 m u1 (by rw [← g0]; exact u2) (g3 m z)
      omega) (fun r u z => by
      rw [g9]
      have := tB.2 r u (by rw [← g5]; exact z)
      omega)
    rw [rcO_4, g0, two, kB] at m2
    refine wq_b2 m2 ?_
    rintro M4 L4 ⟨e4, T4, E4, k1, k2⟩
    dsimp only at T4 E4 k1 k2
    show wq (mloop (fun r73 s => fX17_tick_i73 fu (sL t) r73 s.1 s.2.1 s.2.2) (ff + 1) (v, M4, L4)) Q
    rw [mloop_S]
    show wq (fX17_tick_i73 fu (sL t) _ v M4 L4) Q
    unfold fX17_tick_i73
    rw [T4.1.2.1, if_pos (by rw [lg_cmp_ge, sL_le (by omega) (by omega)]; omega)]
    refine wq_b3 (m_sum17 (by omega)) ?_
    rintro rr M5 L5 ⟨s1, s2⟩
    dsimp only at s1 s2
    subst s1
    subst s2
    rw [← hQ]
    refine wq_some ⟨e4, ?_, ?_, fun a y u => ?_, fun a y u => ?_⟩
    all_goals (try dsimp only)
    · rw [etk2]
      exact TfM_E T4 (fun i j u => etk1 i j u) (fun _ _ _ => rfl) T4.1.2.1 (fun _ _ _ _ => rfl)
    · rw [etk2]
      have := eR_t E2 E4
      obtain ⟨x1, x2, x3, x4⟩ := this
      refine ⟨x1, x2, x3, ?_⟩
      rw [x4, b20]
    · rw [k1 a y u, g1 a y u, f1 a y u]
    · rw [k2 a y u, mset_n (by omega), g2 a y u, f2 a y u]
  unfold DX17_tick
  simp only [mlet]
  rw [h.1.2.1, if_neg (by rw [lg_cmp_lt, sL_lt (by omega) (by omega)]; omega), sL_sub (by omega), if_pos (by rw [lg_cmp_le]; show sL (t - p.1 0 3) ≤ sL 5000; rw [sL_le (by omega) (by omega)]; omega)]
  refine wq_b3 (m_sum17 (by omega)) ?_
  rintro v M0 L0 ⟨s1, s2⟩
  dsimp only at s1 s2
  subst s1
  subst s2
  have T0 : TfM (mset M 869 0 0) L0 (p.1 0 3) p.1 p.2 o e := TfM_fr h (fun a y _ _ _ u => mset_n (by omega)) (fun _ _ _ _ => rfl)
  refine wq_for (body := fun r z => fX17_tick_i38 fu (sL t) r z.1 z.2.1 z.2.2.1 z.2.2.2) (fun i (w : mwM × mwL) => (v, sI (i + 1), w.1, w.2)) (fun i w => TfM w.1 w.2 (p.1 0 3) (bgA i p).1 (bgA i p).2 o e ∧ mFr M w.1 ∧ lFr L0 w.2) (p.1 0 0) ?_ ?_ (p.1 0 0) 0 (mset M 869 0 0, L0) fu (by omega) (by omega) ⟨T0, fun a y u => mset_n (by omega), fun _ _ _ => rfl⟩
  · rintro i ⟨M2, L2⟩ r hi ⟨T2, g1, g2⟩ ih
    dsimp only at T2 g1 g2
    show wq (fX17_tick_i38 fu (sL t) r v (sI (i + 1)) M2 L2) _
    have vi := bA_V i p (by omega) hv
    have ki : (bgA i p).1 0 0 = p.1 0 0 := bA_r (by omega) (by omega) (by omega) (by omega) _ _
    have ci : (bgA i p).1 0 3 = p.1 0 3 := bA_r (by omega) (by omega) (by omega) (by omega) _ _
    have e0 : bgA (i + 1) p = if (bgA i p).1 3 (i + 1) = 0 then (bgN (bgA i p).1 (i + 1), mkB (bgA i p).1 (bgA i p).2) else bgA i p := rfl
    rw [e0] at ih
    have key := fun X Y => ih (X, Y)
    dsimp only at key
    generalize bgA i p = u at *
    have t2 := (T2.2.2.1 (i + 1) (by omega) (by omega)).2.1
    unfold fX17_tick_i38 fX17_tick_b63
    rw [T2.1.2.2.1, ki, if_neg (by rw [sI_lt (by omega) (by omega)]; omega), mck_s (by omega) (by omega), sI_nn (by omega), t2]
    simp only [mlet]
    by_cases h0 : u.1 3 (i + 1) = 0
    · rw [if_pos (by rw [decide_eq_false (by omega)]; rfl)]
      rw [if_pos h0] at key
      dsimp only at key
      have T2' : TfM M2 L2 (u.1 0 3) u.1 u.2 o e := by rw [ci]; exact T2
      refine wq_b2 (m_start17 (by omega) vi T2' (by omega) (by omega) h0) ?_
      rintro M3 L3 ⟨y1, y2, y3⟩
      dsimp only at y1 y2 y3
      rw [ci] at y1
      rw [sI_1]
      exact key M3 L3 ⟨y1, fun a y w => by rw [y2 a y (by omega)]; exact g1 a y w, fun a y w => by rw [y3 a y (by omega)]; exact g2 a y w⟩
    · rw [if_neg (by rw [decide_eq_true h0]; decide)]
      rw [if_neg h0] at key
      rw [sI_1]
      exact key M2 L2 ⟨T2, g1, g2⟩
  · rintro ⟨M2, L2⟩ r ⟨T2, g1, g2⟩
    dsimp only at T2 g1 g2
    show wq (fX17_tick_i38 fu (sL t) r v (sI (p.1 0 0 + 1)) M2 L2) _
    unfold fX17_tick_i38
    rw [T2.1.2.2.1, kB, if_pos (by rw [sI_lt (by omega) (by omega)]; omega)]
    exact moments v M2 L2 T2 g1 g2
