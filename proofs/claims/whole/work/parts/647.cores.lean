/-! the activations: a table on one side, the next one of each task on the other -/
def AL (A M : mwM) (L : mwL) (T now : Nat) (cut : Nat → Nat) : Prop :=
  cut 0 = 0 ∧ cut T ≤ 480 ∧ M 787 32 = sI (cut T) ∧ ∀ j, j < T → cut j ≤ cut (j + 1) ∧ cut (j + 1) ≤ cut T ∧ (∀ k, cut j ≤ k → k < cut (j + 1) → M 812 k = sI (j + 1)) ∧ ∃ kx nx pe, cut j ≤ kx ∧ kx ≤ cut (j + 1) ∧ A 11 j = sI nx ∧ A 9 j = sI pe ∧ pe ≤ 20000 ∧ 500 ≤ pe ∧ nx < 50000 ∧ now ≤ nx ∧ (∀ k, cut j ≤ k → k < kx → ∃ z, L 813 k = sL z ∧ z < now) ∧ (∀ k, kx ≤ k → k < cut (j + 1) → L 813 k = sL (nx + (k - kx) * pe)) ∧ 20000 ≤ nx + (cut (j + 1) - kx) * pe
/-- frames of the activations -/
abbrev alM (M M' : mwM) (L L' : mwL) : Prop := (∀ b y, ¬ (b = 796 ∨ b = 798 ∨ b = 799 ∨ b = 801 ∨ b = 802 ∨ b = 804 ∨ b = 817 ∨ b = 818) → ¬ (b = 787 ∧ y = 39) → M' b y = M b y) ∧ ∀ b y, ¬ (b = 797 ∨ b = 800 ∨ b = 819) → ¬ (b = 787 ∧ y = 21) → L' b y = L b y
theorem m_segment {fu : Nat} {A : mwM} {T C U t j al lo hi kx nx pe : Nat} {P : Option (Int32 × mwM × mwL) → Prop} (hj : j < T) (ht : t < 20000) (hal : al ≤ 480) (hhi : hi ≤ al) (h11 : A 11 j = sI nx) (hnx : nx < 50000) (hpe : 500 ≤ pe) (hge : t ≤ nx) (hkx1 : lo ≤ kx) (hkx2 : kx ≤ hi) (hend : kx = hi → 20000 ≤ nx) : ∀ (m k f : Nat) (M : mwM) (L : mwL) (tn cn : Nat), k + m = hi → lo ≤ k → al - k < f → tn + 1 < 100000000 → cn + 1 < 100000000 → M 787 32 = sI al → L 787 43 = sL t → (∀ k, lo ≤ k → k < hi → M 812 k = sI (j + 1)) → (∀ k, lo ≤ k → k < kx → ∃ z, L 813 k = sL z ∧ z < t) → (∀ k, kx ≤ k → k < hi → L 813 k = sL (nx + (k - kx) * pe)) → (∀ k, k < hi → k - kx < 100000) → (pe ≤ 20000) → ((nx = t ∧ kx < k ∧ RC (act1 A t j) M L T C tn cn U) ∨ (¬ (nx = t ∧ kx < k) ∧ RC A M L T C tn cn U)) → (∀ M' L' tn' cn', RC (act1 A t j) M' L' T C tn' cn' U → tn' ≤ tn + 1 → cn' ≤ cn + 1 → alM M M' L L' → ∀ f', al - hi < f' → P (fX15_microsecond_h2 fu f' (sI hi, M', L'))) → P (fX15_microsecond_h2 fu f (sI k, M, L)) := by
  intro m
  induction m with
  | zero =>
    intro k f M L tn cn hk hlo hf htn hcn h32 h43 h812 hb ha hsm hpe2 hR hQ
    have hkh : k = hi := by omega
    subst hkh
    have hRR : RC (act1 A t j) M L T C tn cn U := by
      rcases hR with ⟨_, _, h⟩ | ⟨hn, h⟩
      · exact h
      · have hne : nx ≠ t := by
          intro q
          have : ¬ kx < k := fun q2 => hn ⟨q, q2⟩
          have hke : kx = k := by omega
          have := hend hke
          omega
        have e : act1 A t j = A := by
          unfold act1
          rw [if_neg (by rw [h11, sI_eq (by omega) (by omega)]; exact hne)]
        rw [e]; exact h
    exact hQ M L tn cn hRR (by omega) (by omega) ⟨fun _ _ _ _ => rfl, fun _ _ _ _ => rfl⟩ f hf
  | succ m ih =>
    intro k f M L tn cn hk hlo hf htn hcn h32 h43 h812 hb ha hsm hpe2 hR hQ
    obtain ⟨g, rfl⟩ : ∃ g, f = g + 1 := ⟨f - 1, by omega⟩
    unfold fX15_microsecond_h2
    rw [mloop_S]
    show P (fX15_microsecond_i2 fu (fX15_microsecond_h2 fu g) (sI k) M L)
    unfold fX15_microsecond_i2 fX15_microsecond_b34
    rw [h32, if_neg (by rw [sI_le (by omega) (by omega)]; omega), mck_s (by omega) (by omega), sI_nn (by omega), h43, h812 k hlo (by omega)]
    simp only [mlet]
    rw [sI_1]
    by_cases hm : nx = t ∧ k = kx
    · -- the one that is due
      obtain ⟨e1, e2⟩ := hm
      have hRA : RC A M L T C tn cn U := by
        rcases hR with ⟨_, h, _⟩ | ⟨_, h⟩
        · omega
        · exact h
      have hL : L 813 k = sL t := by
        rw [ha k (by omega) (by omega), e2, e1]
        congr 1
        rw [Nat.sub_self, Nat.zero_mul, Nat.add_zero]
      obtain ⟨M', L', tn', cn', hbg, q1, q2, q3, q4, q5, q6⟩ := st_act1 (fu := fu) hRA hj ht htn hcn (by rw [h11, e1])
      rw [hL, if_pos ((lg_cmp_eq _ _).mpr rfl), mck_s (by omega) (by omega), hbg, mb2_s]
      have hal2 : alM M M' L L' := ⟨fun b y w1 w2 => q5 b y (by omega) w2 (by omega) (by omega), fun b y w1 w2 => q6 b y (by omega) w2 (by omega)⟩
      -- no second one: from here on nothing is due
      have tailQ : ∀ (m k f : Nat), k + m = hi → kx < k → al - k < f → P (fX15_microsecond_h2 fu f (sI k, M', L')) := by
        intro m
        induction m with
        | zero =>
          intro k f hk2 hkx3 hf2
          have : k = hi := by omega
          subst this
          exact hQ M' L' tn' cn' q4 q2 q3 hal2 f hf2
        | succ m ih2 =>
          intro k f hk2 hkx3 hf2
          obtain ⟨g2, rfl⟩ : ∃ g2, f = g2 + 1 := ⟨f - 1, by omega⟩
          unfold fX15_microsecond_h2
          rw [mloop_S]
          show P (fX15_microsecond_i2 fu (fX15_microsecond_h2 fu g2) (sI k) M' L')
          unfold fX15_microsecond_i2 fX15_microsecond_b34
          rw [hal2.1 787 32 (by omega) (by omega), h32, if_neg (by rw [sI_le (by omega) (by omega)]; omega), mck_s (by omega) (by omega), sI_nn (by omega), hal2.2 787 43 (by omega) (by omega), h43, hal2.2 813 k (by omega) (by omega), ha k (by omega) (by omega)]
          have hd := hsm k (by omega)
          obtain ⟨d, hd2⟩ : ∃ d, k - kx = d + 1 := ⟨k - kx - 1, by omega⟩
          have hmul : 500 ≤ (k - kx) * pe := by
            rw [hd2, Nat.add_mul, Nat.one_mul]
            exact Nat.le_trans hpe (Nat.le_add_left _ _)
          have hmul2 : (k - kx) * pe ≤ 100000 * 20000 := Nat.mul_le_mul (by omega) hpe2
          rw [if_neg (by
            rw [lg_cmp_eq, sL_eq (by omega) (by omega)]
            omega)]
          simp only [mlet]
          rw [sI_1]
          exact ih2 (k + 1) g2 (by omega) (by omega) (by omega)
      exact tailQ m (k + 1) g (by omega) (by omega) (by omega)
    · -- not due
      have hne : ¬ lg_cmp (L 813 k) (sL t) = 0 := by
        rw [lg_cmp_eq]
        by_cases hkk : k < kx
        · obtain ⟨z, z1, z2⟩ := hb k hlo hkk
          rw [z1, sL_eq (by omega) (by omega)]
          omega
        · have hd := hsm k (by omega)
          have hmul2 : (k - kx) * pe ≤ 100000 * 20000 := Nat.mul_le_mul (by omega) hpe2
          rw [ha k (by omega) (by omega), sL_eq (by omega) (by omega)]
          intro q
          by_cases hke : k = kx
          · rw [hke, Nat.sub_self, Nat.zero_mul] at q
            exact hm ⟨by omega, hke⟩
          · obtain ⟨d, hd2⟩ : ∃ d, k - kx = d + 1 := ⟨k - kx - 1, by omega⟩
            rw [hd2, Nat.add_mul, Nat.one_mul] at q
            omega
      rw [if_neg hne]
      refine ih (k + 1) g M L tn cn (by omega) (by omega) (by omega) htn hcn h32 h43 h812 hb ha hsm hpe2 ?_ hQ
      rcases hR with ⟨w1, w2, w3⟩ | ⟨w1, w2⟩
      · exact Or.inl ⟨w1, by omega, w3⟩
      · refine Or.inr ⟨?_, w2⟩
        rintro ⟨w3, w4⟩
        by_cases hke : k = kx
        · exact hm ⟨w3, hke⟩
        · exact w1 ⟨w3, by omega⟩
