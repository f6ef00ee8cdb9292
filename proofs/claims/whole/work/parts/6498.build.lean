/-! how often a task is activated -/
def nA (off pe : Nat) : Nat := (20000 - off + (pe - 1)) / pe
theorem nA_le {off pe : Nat} (hpe : 500 ≤ pe) : nA off pe ≤ 40 := by
  unfold nA
  have h1 : (20000 - off + (pe - 1)) / pe < 41 := by
    rw [Nat.div_lt_iff_lt_mul (by omega)]
    omega
  omega
theorem nA_lt {off pe n : Nat} (hpe : 500 ≤ pe) (hoff : off < 20000) (hn : n < nA off pe) : off + n * pe < 20000 := by
  unfold nA at hn
  rw [Nat.lt_div_iff_mul_lt (by omega)] at hn
  have e : n * pe = pe * n := Nat.mul_comm _ _
  omega
theorem nA_ge {off pe : Nat} (hpe : 500 ≤ pe) : 20000 ≤ off + nA off pe * pe := by
  unfold nA
  have h := Nat.div_add_mod (20000 - off + (pe - 1)) pe
  have h2 := Nat.mod_lt (20000 - off + (pe - 1)) (show 0 < pe by omega)
  rw [Nat.mul_comm] at h
  omega
def cutF (off pe : Nat → Nat) : Nat → Nat
  | 0 => 0
  | j + 1 => cutF off pe j + nA (off j) (pe j)
theorem cutF_le {off pe : Nat → Nat} {T : Nat} (hpe : ∀ j, j < T → 500 ≤ pe j) : ∀ j, j ≤ T → cutF off pe j ≤ 40 * j := by
  intro j
  induction j with
  | zero => intro _; exact Nat.le_refl _
  | succ j ih =>
    intro hj
    have h1 := ih (by omega)
    have h2 := nA_le (off := off j) (hpe j (by omega))
    show cutF off pe j + nA (off j) (pe j) ≤ _
    omega
theorem cutF_mono {off pe : Nat → Nat} : ∀ m j, cutF off pe j ≤ cutF off pe (j + m) := by
  intro m
  induction m with
  | zero => intro j; exact Nat.le_refl _
  | succ m ih =>
    intro j
    have h1 := ih j
    show _ ≤ cutF off pe (j + m) + nA (off (j + m)) (pe (j + m))
    omega
theorem CZ_f {M M' : mwM} {L L' : mwL} {C : Nat} (h : CZ M L C) (hM : ∀ b y, ¬ (b = 787 ∧ (y = 1 ∨ y = 7 ∨ y = 32)) → ¬ (788 ≤ b ∧ b ≤ 795) → b ≠ 812 → M' b y = M b y) (hL : ∀ b y, b ≠ 795 → b ≠ 813 → L' b y = L b y) : CZ M' L' C := by
  obtain ⟨h1, h2, h3, h4, h5, h6, h7, h8, h9⟩ := h
  refine ⟨by rw [hM _ _ (by omega) (by omega) (by omega)]; exact h1, by rw [hL _ _ (by omega) (by omega)]; exact h2, by rw [hL _ _ (by omega) (by omega)]; exact h3, by rw [hM _ _ (by omega) (by omega) (by omega)]; exact h4, by rw [hM _ _ (by omega) (by omega) (by omega)]; exact h5, by rw [hM _ _ (by omega) (by omega) (by omega)]; exact h6, fun r q1 q2 => by rw [hM _ _ (by omega) (by omega) (by omega)]; exact h7 r q1 q2, fun r q1 q2 => by rw [hM _ _ (by omega) (by omega) (by omega)]; exact h8 r q1 q2, ?_⟩
  intro t ht
  obtain ⟨w1, w2, w3, w4, w5⟩ := h9 t ht
  exact ⟨by rw [hM _ _ (by omega) (by omega) (by omega)]; exact w1, by rw [hM _ _ (by omega) (by omega) (by omega)]; exact w2, by rw [hM _ _ (by omega) (by omega) (by omega)]; exact w3, by rw [hM _ _ (by omega) (by omega) (by omega)]; exact w4, by rw [hL _ _ (by omega) (by omega)]; exact w5⟩
/-- a task's rows in the reference's cores -/
abbrev tb (M : mwM) (L : mwL) (j rk co mi : Nat) : Prop := M 788 (j + 1) = sI rk ∧ M 789 (j + 1) = sI co ∧ M 790 (j + 1) = 2 ∧ M 792 (j + 1) = 1 ∧ M 793 j = sI (j + 1) ∧ M 794 j = 0 ∧ L 795 j = sL mi
theorem tb_f {M M' : mwM} {L L' : mwL} {j rk co mi : Nat} (h : tb M L j rk co mi) (hM : ∀ b, M' b (j + 1) = M b (j + 1) ∨ ¬ (788 ≤ b ∧ b ≤ 792)) (h3 : M' 793 j = M 793 j) (h4 : M' 794 j = M 794 j) (h5 : L' 795 j = L 795 j) : tb M' L' j rk co mi := by
  obtain ⟨w1, w2, w3, w4, w5, w6, w7⟩ := h
  have hk : ∀ b, 788 ≤ b → b ≤ 792 → M' b (j + 1) = M b (j + 1) := by
    intro b q1 q2
    rcases hM b with q | q
    · exact q
    · exact absurd ⟨q1, q2⟩ q
  exact ⟨by rw [hk _ (by omega) (by omega)]; exact w1, by rw [hk _ (by omega) (by omega)]; exact w2, by rw [hk _ (by omega) (by omega)]; exact w3, by rw [hk _ (by omega) (by omega)]; exact w4, by rw [h3]; exact w5, by rw [h4]; exact w6, by rw [h5]; exact w7⟩
/-- all tasks of a car -/
theorem m_tasks {fu : Nat} {M : mwM} {L : mwL} {C T : Nat} {rk co pe off mi : Nat → Nat} {Q : Int32 × mwM × mwL → Prop} (hf : 100 ≤ fu) (hT : T ≤ 12) (hC : C ≤ 6) (h24 : M 732 24 = sI T) (ht : ∀ j, j < T → M 743 j = sI (rk j) ∧ M 742 j = sI (co j) ∧ M 744 j = sI (pe j) ∧ M 745 j = sI (off j) ∧ M 746 j = sI (mi j) ∧ rk j < 256 ∧ co j < C ∧ 500 ≤ pe j ∧ pe j ≤ 20000 ∧ off j < pe j ∧ 1 ≤ mi j ∧ mi j ≤ 1000) (hZ : CZ M L C) (h1 : M 787 1 = sI 0) (h7 : M 787 7 = sI 0) (h32 : M 787 32 = sI 0)
    (hQ : ∀ M' L' r, CZ M' L' C → M' 787 1 = sI T → M' 787 7 = sI T → M' 787 32 = sI (cutF off pe T) → (∀ j, j < T → tb M' L' j (rk j) (co j) (mi j)) → (∀ j, j < T → ∀ k, cutF off pe j ≤ k → k < cutF off pe (j + 1) → M' 812 k = sI (j + 1) ∧ L' 813 k = sL (off j + (k - cutF off pe j) * pe j)) → (∀ b y, (b < 787 ∨ 820 < b) → M' b y = M b y) → (∀ b y, (b < 787 ∨ 820 < b) → L' b y = L b y) → wq (fX19_build_i36 fu r (sI T) M' L') Q) : wq (fX19_build_h36 fu fu (0, M, L)) Q := by
  have hpe : ∀ j, j < T → 500 ≤ pe j := fun j hj => (ht j hj).2.2.2.2.2.2.2.1
  refine wq_for (body := fun r s => fX19_build_i36 fu r s.1 s.2.1 s.2.2) (fun i (a : mwM × mwL) => (sI i, a.1, a.2)) (fun i a => CZ a.1 a.2 C ∧ a.1 787 1 = sI i ∧ a.1 787 7 = sI i ∧ a.1 787 32 = sI (cutF off pe i) ∧ (∀ j, j < i → tb a.1 a.2 j (rk j) (co j) (mi j)) ∧ (∀ j, j < i → ∀ k, cutF off pe j ≤ k → k < cutF off pe (j + 1) → a.1 812 k = sI (j + 1) ∧ a.2 813 k = sL (off j + (k - cutF off pe j) * pe j)) ∧ (∀ b y, (b < 787 ∨ 820 < b) → a.1 b y = M b y) ∧ ∀ b y, (b < 787 ∨ 820 < b) → a.2 b y = L b y) T ?_ ?_ T 0 (M, L) fu (by omega) (by omega) ⟨hZ, h1, h7, h32, fun j h => by omega, fun j h => by omega, fun _ _ _ => rfl, fun _ _ _ => rfl⟩
  · rintro i ⟨a, l⟩ r hi ⟨p1, p2, p3, p4, p5, p6, p7, p8⟩ ih
    dsimp only at p1 p2 p3 p4 p5 p6 p7 p8
    obtain ⟨t1, t2, t3, t4, t5, t6, t7, t8, t9, t10, t11, t12⟩ := ht i hi
    have hcut := cutF_le (off := off) hpe i (by omega)
    have hnA := nA_le (off := off i) t8
    show wq (fX19_build_i36 fu r (sI i) a l) _
    unfold fX19_build_i36
    rw [p7 732 24 (by omega), h24, if_neg (by rw [sI_le (by omega) (by omega)]; omega), mck_s (by omega) (by omega), mck_s (by omega) (by omega), sI_nn (by omega), p7 743 i (by omega), t1, p7 742 i (by omega), t2]
    refine wq_b3 (m_task15 (by omega) hC t7 t6 p1.1 p2 p1.2.2.1) ?_
    rintro rr M1 L1 ⟨x1, x2, x3, x4, x5, x6, x7, x8⟩
    dsimp only at x1 x2 x3 x4 x5 x6 x7 x8
    subst x1 x2
    rw [mck_s (by omega) (by omega), x8 746 i (by omega) (by omega), p7 746 i (by omega), t5]
    refine wq_b3 (m_part15 (by omega) (by omega) t11 t12 x3 (by rw [x8 787 7 (by omega) (by omega)]; exact p3) p1.2.2.1) ?_
    rintro rr2 M2 L2 ⟨y1, y2, y3, y4, y5, y6⟩
    dsimp only at y1 y2 y3 y4 y5 y6
    rw [mck_s (by omega) (by omega), y5 745 i (by omega) (by omega), x8 745 i (by omega) (by omega), p7 745 i (by omega), t4]
    simp only [mlet]
    have f12 : ∀ b y, ¬ (b = 787 ∧ (y = 1 ∨ y = 7)) → ¬ (y = i + 1 ∧ 788 ≤ b ∧ b ≤ 792) → ¬ (y = i ∧ (b = 793 ∨ b = 794)) → M2 b y = a b y := fun b y q1 q2 q3 => (y5 b y (by omega) (by omega)).trans (x8 b y (by omega) (by omega))
    have hl2 : ∀ b y, ¬ (b = 795 ∧ y = i) → L2 b y = L1 b y := y6
    have h2_1 : M2 787 1 = sI (i + 1) := by rw [y5 _ _ (by omega) (by omega)]; exact x3
    have h2_32 : M2 787 32 = sI (cutF off pe i) := by rw [f12 _ _ (by omega) (by omega) (by omega)]; exact p4
    rw [show sI (off i) = sI (off i + 0 * pe i) by rw [Nat.zero_mul, Nat.add_zero]]
    refine wq_for (body := fun r' s => fX19_build_i91 fu r r' s.1 s.2.1 s.2.2.1 s.2.2.2.1 s.2.2.2.2) (fun n (c : mwM × mwL) => (sI i, sI (i + 1), sI (off i + n * pe i), c.1, c.2)) (fun n c => c.1 787 32 = sI (cutF off pe i + n) ∧ (∀ k, cutF off pe i ≤ k → k < cutF off pe i + n → c.1 812 k = sI (i + 1) ∧ c.2 813 k = sL (off i + (k - cutF off pe i) * pe i)) ∧ (∀ b y, ¬ (b = 787 ∧ y = 32) → ¬ (b = 812 ∧ cutF off pe i ≤ y) → c.1 b y = M2 b y) ∧ ∀ b y, ¬ (b = 813 ∧ cutF off pe i ≤ y) → c.2 b y = L2 b y) (nA (off i) (pe i)) ?_ ?_ (nA (off i) (pe i)) 0 (M2, L2) fu (by omega) (by omega) ⟨h2_32, fun k q1 q2 => by omega, fun _ _ _ _ => rfl, fun _ _ _ => rfl⟩
    · rintro n ⟨c, d⟩ r' hn ⟨z1, z2, z3, z4⟩ ih2
      dsimp only at z1 z2 z3 z4
      have hlt := nA_lt t8 (by omega) hn
      show wq (fX19_build_i91 fu r r' (sI i) (sI (i + 1)) (sI (off i + n * pe i)) c d) _
      unfold fX19_build_i91
      rw [if_neg (by rw [sI_lle (by omega) (by omega)]; omega), m_activate15 (T := i + 1) (al := cutF off pe i + n) (by omega) (by omega) (by omega) hlt (by rw [z3 _ _ (by omega) (by omega)]; exact h2_1) z1 (by rw [z4 _ _ (by omega), y6 _ _ (by omega)]; exact p1.2.2.1), mb3_s, if_pos (by decide), mck_s (by omega) (by omega), sI_nn (by omega)]
      simp only [mlet]
      have e744 : mset (mset c 812 (cutF off pe i + n) (sI (i + 1))) 787 32 (sI (cutF off pe i + n + 1)) 744 i = sI (pe i) := by
        rw [mset_k (by decide), mset_k (by decide), z3 _ _ (by omega) (by omega), f12 _ _ (by omega) (by omega) (by omega), p7 744 i (by omega)]
        exact t3
      rw [e744, sI_add, show off i + n * pe i + pe i = off i + (n + 1) * pe i by rw [Nat.add_mul, Nat.one_mul]; omega]
      refine ih2 (mset (mset c 812 (cutF off pe i + n) (sI (i + 1))) 787 32 (sI (cutF off pe i + n + 1)), mset d 813 (cutF off pe i + n) (sL (off i + n * pe i))) ⟨?_, ?_, ?_, ?_⟩
      all_goals (try dsimp only)
      · rw [mset_s]; rfl
      · intro k q1 q2
        by_cases hk : k = cutF off pe i + n
        · subst hk
          rw [mset_k (by decide), mset_s, mset_s, Nat.add_sub_cancel_left]
          exact ⟨rfl, rfl⟩
        · rw [mset_k (by decide), mset_j hk, mset_j hk]
          exact z2 k q1 (by omega)
      · intro b y q1 q2
        rw [mset_n (by omega), mset_n (by omega)]
        exact z3 b y q1 q2
      · intro b y q1
        rw [mset_n (by omega)]
        exact z4 b y q1
    · rintro ⟨c, d⟩ r' ⟨z1, z2, z3, z4⟩
      dsimp only at z1 z2 z3 z4
      have hge := nA_ge (off := off i) t8
      have hnp : nA (off i) (pe i) * pe i ≤ 40 * 20000 := Nat.mul_le_mul hnA t9
      show wq (fX19_build_i91 fu r r' (sI i) (sI (i + 1)) (sI (off i + nA (off i) (pe i) * pe i)) c d) _
      unfold fX19_build_i91
      rw [if_pos (by rw [sI_lle (by omega) (by omega)]; exact hge)]
      simp only [mlet]
      rw [sI_1]
      have e1 : cutF off pe (i + 1) = cutF off pe i + nA (off i) (pe i) := rfl
      refine ih (c, d) ⟨?_, ?_, ?_, ?_, ?_, ?_, ?_, ?_⟩
      all_goals (try dsimp only)
      · exact CZ_f p1 (fun b y q1 q2 q3 => (z3 b y (by omega) (by omega)).trans (f12 b y (by omega) (by omega) (by omega))) (fun b y q1 q2 => (z4 b y (by omega)).trans (y6 b y (by omega)))
      · rw [z3 _ _ (by omega) (by omega)]; exact h2_1
      · rw [z3 _ _ (by omega) (by omega)]; exact y1
      · rw [e1]; exact z1
      · intro j hj
        by_cases hji : j = i
        · subst hji
          exact ⟨by rw [z3 _ _ (by omega) (by omega), y5 _ _ (by omega) (by omega)]; exact x4, by rw [z3 _ _ (by omega) (by omega), y5 _ _ (by omega) (by omega)]; exact x5, by rw [z3 _ _ (by omega) (by omega), y5 _ _ (by omega) (by omega)]; exact x6, by rw [z3 _ _ (by omega) (by omega), y5 _ _ (by omega) (by omega)]; exact x7, by rw [z3 _ _ (by omega) (by omega)]; exact y2, by rw [z3 _ _ (by omega) (by omega)]; exact y3, by rw [z4 _ _ (by omega)]; exact y4⟩
        · refine tb_f (p5 j (by omega)) ?_ ?_ ?_ ?_
          · intro b
            by_cases hb : 788 ≤ b ∧ b ≤ 792
            · left
              rw [z3 _ _ (by omega) (by omega)]
              exact f12 _ _ (by omega) (by omega) (by omega)
            · exact Or.inr hb
          · rw [z3 _ _ (by omega) (by omega)]; exact f12 _ _ (by omega) (by omega) (by omega)
          · rw [z3 _ _ (by omega) (by omega)]; exact f12 _ _ (by omega) (by omega) (by omega)
          · rw [z4 _ _ (by omega)]; exact y6 _ _ (by omega)
      · intro j hj k q1 q2
        by_cases hji : j = i
        · subst hji
          exact z2 k q1 (by rw [← e1]; exact q2)
        · have hm := cutF_mono (off := off) (pe := pe) (i - (j + 1)) (j + 1)
          rw [show j + 1 + (i - (j + 1)) = i by omega] at hm
          rw [z3 _ _ (by omega) (by omega), f12 _ _ (by omega) (by omega) (by omega), z4 _ _ (by omega), y6 _ _ (by omega)]
          exact p6 j (by omega) k q1 q2
      · intro b y q
        rw [z3 _ _ (by omega) (by omega), f12 _ _ (by omega) (by omega) (by omega)]
        exact p7 b y q
      · intro b y q
        rw [z4 _ _ (by omega), y6 _ _ (by omega)]
        exact p8 b y q
  · rintro ⟨a, l⟩ r ⟨p1, p2, p3, p4, p5, p6, p7, p8⟩
    exact hQ a l r p1 p2 p3 p4 p5 p6 p7 p8
/-- what the class has of its tasks when a text has been read -/
def CT (A : mwM) (T : Nat) (rk co pe off mi : Nat → Nat) : Prop := A 5 3 = sI T ∧ A 5 4 = sI 0 ∧ A 5 6 = 1 ∧ (∀ c, c < 6 → A 18 c = -1) ∧ ∀ j, j < T → tk A j (rk j) (co j) (pe j) (mi j) (off j) 0 0 0 0 0 0
theorem RCo_0 {A M : mwM} {L : mwL} {C T : Nat} {rk co pe off mi : Nat → Nat} (hT : T ≤ 12) (hC : C ≤ 6) (hA : CT A T rk co pe off mi) (ht : ∀ j, j < T → rk j < 256 ∧ co j < C ∧ 500 ≤ pe j ∧ pe j ≤ 20000 ∧ off j < pe j ∧ 1 ≤ mi j ∧ mi j ≤ 1000) (hZ : CZ M L C) (h1 : M 787 1 = sI T) (h7 : M 787 7 = sI T) (h32 : M 787 32 = sI (cutF off pe T)) (hb : ∀ j, j < T → tb M L j (rk j) (co j) (mi j)) (hal : ∀ j, j < T → ∀ k, cutF off pe j ≤ k → k < cutF off pe (j + 1) → M 812 k = sI (j + 1) ∧ L 813 k = sL (off j + (k - cutF off pe j) * pe j)) : RCo A M L T C 0 := by
  obtain ⟨a1, a2, a3, a4, a5⟩ := hA
  obtain ⟨z1, z2, z3, z4, z5, z6, z7, z8, z9⟩ := hZ
  have hpe : ∀ j, j < T → 500 ≤ pe j := fun j hj => (ht j hj).2.2.1
  have h12 : ∀ j, j < T → A 12 j = 0 := fun j hj => (a5 j hj).2.2.2.2.2.1
  refine ⟨0, 0, 1, cutF off pe, ⟨hT, hC, by omega, by omega, a1, h1, h7, z1, a2, z2, z4, z5, z7, z8, z6, ?_, ?_⟩, ⟨rfl, ?_, h32, ?_⟩, z3, by omega, by omega, by omega, by omega, Or.inr a3, ?_, fun s hs => by omega⟩
  · intro i hi
    obtain ⟨w1, w2, w3, w4, w5, w6, w7⟩ := ht i hi
    obtain ⟨b1, b2, b3, b4, b5, b6, b7⟩ := hb i hi
    obtain ⟨u1, u2, u3, u4, u5⟩ := z9 (i + 1) (by omega)
    exact ⟨rk i, co i, pe i, mi i, off i, 0, 0, 0, 0, 0, 0, ⟨w1, w2, w3, w4, w6, w7, by omega, by omega, by omega, by omega, by omega, by omega, by omega, fun _ => ⟨rfl, rfl⟩, fun _ => by omega, fun q => by omega⟩, a5 i hi, ⟨b1, b2, b3, b4, b5, b6, b7, u1, u2, u3, u4, u5, fun q => absurd rfl q⟩⟩
  · intro c hc
    refine ⟨none, a4 c hc, (fun x hx => by cases hx), ?_⟩
    intro i hi
    constructor
    · rintro ⟨_, q⟩
      rw [h12 i hi] at q
      exact absurd q (by decide)
    · intro q; cases q
  · have := cutF_le (off := off) hpe T (Nat.le_refl _)
    omega
  · intro j hj
    obtain ⟨w1, w2, w3, w4, w5, w6, w7⟩ := ht j hj
    have hm1 := cutF_mono (off := off) (pe := pe) 1 j
    have hm2 := cutF_mono (off := off) (pe := pe) (T - (j + 1)) (j + 1)
    rw [show j + 1 + (T - (j + 1)) = T by omega] at hm2
    refine ⟨hm1, hm2, fun k q1 q2 => (hal j hj k q1 q2).1, cutF off pe j, off j, pe j, Nat.le_refl _, hm1, (a5 j hj).2.2.2.2.1, (a5 j hj).2.2.1, w4, w3, by omega, by omega, fun k q1 q2 => by omega, fun k q1 q2 => (hal j hj k q1 q2).2, ?_⟩
    have e1 : cutF off pe (j + 1) - cutF off pe j = nA (off j) (pe j) := by
      show cutF off pe j + nA (off j) (pe j) - cutF off pe j = _
      omega
    rw [e1]
    exact nA_ge w3
  · intro _ c hc
    refine ⟨none, ⟨a4 c hc, ?_⟩, fun x hx => by cases hx⟩
    intro x hx _ q
    rw [h12 x hx] at q
    exact absurd q (by decide)
