/-! keys; a pack gets its signals -/
def kyf (ka kp kn : Nat → Nat) (c p : Nat) : Nat → Nat → Nat
  | 0, _ => 0
  | r + 1, i => if ka i = c ∧ kp i = p then kn i else kyf ka kp kn c p r (i + 1)
abbrev KyC (A : mwM) (K : Nat) (ka kp kn : Nat → Nat) : Prop := A 61 12 = sI K ∧ K ≤ 400 ∧ ∀ i, i < K → A 82 i = sI (ka i) ∧ A 83 i = sI (kp i) ∧ A 84 i = sI (kn i) ∧ ka i < 6 ∧ kp i ≤ 20000 ∧ kn i ≤ 16
abbrev KyM (M : mwM) (K : Nat) (ka kp kn : Nat → Nat) : Prop := M 732 20 = sI K ∧ K ≤ 400 ∧ ∀ i, i < K → M 738 i = sI (ka i) ∧ M 739 i = sI (kp i) ∧ M 740 i = sI (kn i) ∧ ka i < 6 ∧ kp i ≤ 20000 ∧ kn i ≤ 16
theorem kyf_le {ka kp kn : Nat → Nat} {c p : Nat} : ∀ (r i : Nat), (∀ j, j < i + r → kn j ≤ 16) → kyf ka kp kn c p r i ≤ 16 := by
  intro r
  induction r with
  | zero => intro i _; exact Nat.zero_le _
  | succ r ih =>
    intro i h
    show (if ka i = c ∧ kp i = p then kn i else kyf ka kp kn c p r (i + 1)) ≤ 16
    split
    · exact h i (by omega)
    · exact ih (i + 1) (fun j hj => h j (by omega))
theorem c_keyOf {fu K c p : Nat} {ka kp kn : Nat → Nat} {A : mwM} {L : mwL} (hfu : 500 ≤ fu) (h : KyC A K ka kp kn) (hc : c < 6) (hp : p ≤ 20000) : DX6_keyOf fu (sI c) (sI p) A L = some (sI (kyf ka kp kn c p K 0), A, L) := by
  obtain ⟨h1, h2, h3⟩ := h
  unfold DX6_keyOf
  have key : ∀ (r i q : Nat), i + r = K → r < q → fX6_keyOf_h2 fu (sI c) (sI p) q (sI i, A, L) = some (sI (kyf ka kp kn c p r i), A, L) := by
    intro r
    induction r with
    | zero =>
      intro i q hi hq
      obtain ⟨q', rfl⟩ : ∃ y, q = y + 1 := ⟨q - 1, by omega⟩
      show fX6_keyOf_i2 fu (sI c) (sI p) (fX6_keyOf_h2 fu (sI c) (sI p) q') (sI i) A L = _
      unfold fX6_keyOf_i2
      rw [h1, if_pos (by rw [sI_le (by omega) (by omega)]; omega)]
      rfl
    | succ r ih =>
      intro i q hi hq
      obtain ⟨q', rfl⟩ : ∃ y, q = y + 1 := ⟨q - 1, by omega⟩
      obtain ⟨a1, a2, a3, a4, a5, a6⟩ := h3 i (by omega)
      have nx := ih (i + 1) q' (by omega) (by omega)
      show fX6_keyOf_i2 fu (sI c) (sI p) (fX6_keyOf_h2 fu (sI c) (sI p) q') (sI i) A L = _
      unfold fX6_keyOf_i2 fX6_keyOf_b43
      simp only [mlet]
      rw [h1, if_neg (by rw [sI_le (by omega) (by omega)]; omega), mck_s (by omega) (by omega), mck_s (by omega) (by omega), mck_s (by omega) (by omega), sI_nn (by omega), a1, a2, a3, sI_1]
      have e : kyf ka kp kn c p (r + 1) i = if ka i = c ∧ kp i = p then kn i else kyf ka kp kn c p r (i + 1) := rfl
      rw [e]
      by_cases c1 : ka i = c
      · rw [if_pos (by rw [c1])]
        by_cases c2 : kp i = p
        · rw [if_pos (by rw [c2]), if_pos ⟨c1, c2⟩]
        · rw [if_neg (by rw [sI_eq (by omega) (by omega)]; exact c2), if_neg (fun w => c2 w.2)]
          exact nx
      · rw [if_neg (by rw [sI_eq (by omega) (by omega)]; exact c1), if_neg (fun w => c1 w.1)]
        exact nx
  exact key K 0 fu (by omega) (by omega)
theorem m_keyOf {fu K c p : Nat} {ka kp kn : Nat → Nat} {A : mwM} {L : mwL} (hfu : 500 ≤ fu) (h : KyM A K ka kp kn) (hc : c < 6) (hp : p ≤ 20000) : DX19_keyOf fu (sI c) (sI p) A L = some (sI (kyf ka kp kn c p K 0), A, L) := by
  obtain ⟨h1, h2, h3⟩ := h
  unfold DX19_keyOf
  have key : ∀ (r i q : Nat), i + r = K → r < q → fX19_keyOf_h2 fu (sI c) (sI p) q (sI i, A, L) = some (sI (kyf ka kp kn c p r i), A, L) := by
    intro r
    induction r with
    | zero =>
      intro i q hi hq
      obtain ⟨q', rfl⟩ : ∃ y, q = y + 1 := ⟨q - 1, by omega⟩
      show fX19_keyOf_i2 fu (sI c) (sI p) (fX19_keyOf_h2 fu (sI c) (sI p) q') (sI i) A L = _
      unfold fX19_keyOf_i2
      rw [h1, if_pos (by rw [sI_le (by omega) (by omega)]; omega)]
      rfl
    | succ r ih =>
      intro i q hi hq
      obtain ⟨q', rfl⟩ : ∃ y, q = y + 1 := ⟨q - 1, by omega⟩
      obtain ⟨a1, a2, a3, a4, a5, a6⟩ := h3 i (by omega)
      have nx := ih (i + 1) q' (by omega) (by omega)
      show fX19_keyOf_i2 fu (sI c) (sI p) (fX19_keyOf_h2 fu (sI c) (sI p) q') (sI i) A L = _
      unfold fX19_keyOf_i2 fX19_keyOf_b37
      simp only [mlet]
      rw [h1, if_neg (by rw [sI_le (by omega) (by omega)]; omega), mck_s (by omega) (by omega), mck_s (by omega) (by omega), mck_s (by omega) (by omega), sI_nn (by omega), a1, a2, a3, sI_1]
      have e : kyf ka kp kn c p (r + 1) i = if ka i = c ∧ kp i = p then kn i else kyf ka kp kn c p r (i + 1) := rfl
      rw [e]
      by_cases c1 : ka i = c
      · rw [if_pos (by rw [c1])]
        by_cases c2 : kp i = p
        · rw [if_pos (by rw [c2]), if_pos ⟨c1, c2⟩]
        · rw [if_neg (by rw [sI_eq (by omega) (by omega)]; exact c2), if_neg (fun w => c2 w.2)]
          exact nx
      · rw [if_neg (by rw [sI_eq (by omega) (by omega)]; exact c1), if_neg (fun w => c1 w.1)]
        exact nx
  exact key K 0 fu (by omega) (by omega)
theorem m_anewP {fu k : Nat} {x : Int32} {M : mwM} {L : mwL} (hfu : 70 ≤ fu) : ∃ M', DX16_anew fu k x M L = some (M', L) ∧ M' k 1 = x ∧ M' k 2 = 0 ∧ M' k 15 = 0 ∧ ∀ a y, a ≠ k + 14 → ¬ (a = k ∧ (y = 1 ∨ y = 2 ∨ y = 14 ∨ y = 15)) → M' a y = M a y := by
  unfold DX16_anew
  simp only [mlet]
  generalize hB : mset (mset (mset (mset M k 1 x) k 2 0) k 15 0) k 14 0 = B
  have key : ∀ (r f q : Nat) (B : mwM), f + r = 65 → r < q → B k 1 = x ∧ B k 2 = 0 ∧ B k 15 = 0 ∧ (∀ a y, a ≠ k + 14 → ¬ (a = k ∧ (y = 1 ∨ y = 2 ∨ y = 14 ∨ y = 15)) → B a y = M a y) → ∃ M', fX16_anew_h22 fu k x q (sI f, B, L) = some (M', L) ∧ M' k 1 = x ∧ M' k 2 = 0 ∧ M' k 15 = 0 ∧ ∀ a y, a ≠ k + 14 → ¬ (a = k ∧ (y = 1 ∨ y = 2 ∨ y = 14 ∨ y = 15)) → M' a y = M a y := by
    intro r
    induction r with
    | zero =>
      intro f q B hf hq h
      obtain ⟨q', rfl⟩ : ∃ y, q = y + 1 := ⟨q - 1, by omega⟩
      refine ⟨B, ?_, h⟩
      show fX16_anew_i22 fu k x (fX16_anew_h22 fu k x q') (sI f) B L = _
      unfold fX16_anew_i22
      rw [if_pos (by rw [sI_lle (by decide) (by omega)]; omega)]
    | succ r ih =>
      intro f q B hf hq h
      obtain ⟨q', rfl⟩ : ∃ y, q = y + 1 := ⟨q - 1, by omega⟩
      have un : fX16_anew_h22 fu k x (q' + 1) (sI f, B, L) = fX16_anew_i22 fu k x (fX16_anew_h22 fu k x q') (sI f) B L := rfl
      rw [un]
      unfold fX16_anew_i22
      simp only [mlet]
      rw [if_neg (by rw [sI_lle (by decide) (by omega)]; omega), mck_s (by omega) (by omega), sI_nn (by omega), sI_1]
      obtain ⟨h1, h2, h3, h4⟩ := h
      exact ih (f + 1) q' _ (by omega) (by omega) ⟨by rw [mset_n (by omega)]; exact h1, by rw [mset_n (by omega)]; exact h2, by rw [mset_n (by omega)]; exact h3, fun a y w1 w2 => by rw [mset_n (by omega)]; exact h4 a y w1 w2⟩
  exact key 65 0 fu B (by omega) (by omega) ⟨by rw [← hB, mset_n (by omega), mset_n (by omega), mset_n (by omega), mset_s], by rw [← hB, mset_n (by omega), mset_n (by omega), mset_s], by rw [← hB, mset_n (by omega), mset_s], fun a y w1 w2 => by rw [← hB, mset_n (by omega), mset_n (by omega), mset_n (by omega), mset_n (by omega)]⟩
theorem m_signal {fu k n b p cap : Nat} {t : Bool} {M : mwM} {L : mwL} (h1 : M k 1 = sI cap) (hc : cap ≤ 8) (h2 : M k 2 = sI n) (hn : n < 40) (b1 : 1 ≤ b) (b2 : b ≤ 64) (p1 : 1 ≤ p) (p2 : p ≤ 20000) : (cap < (b + 7) / 8 → DX16_signal fu k (sI b) (sI p) (bI t) M L = some (0, mset M k 0 0, L)) ∧ ((b + 7) / 8 ≤ cap → ∃ M', DX16_signal fu k (sI b) (sI p) (bI t) M L = some (sI (n + 1), M', L) ∧ M' k 2 = sI (n + 1) ∧ M' (k + 1) (n + 1) = sI b ∧ M' (k + 2) (n + 1) = sI p ∧ M' (k + 3) (n + 1) = bI t ∧ M' (k + 4) (n + 1) = -1 ∧ M' (k + 5) (n + 1) = sI (n + 1) ∧ M' (k + 6) (n + 1) = 0 ∧ M' (k + 7) (n + 1) = 0 ∧ M' (k + 9) (n + 1) = 0 ∧ M' (k + 11) (n + 1) = 0 ∧ ∀ a y, ¬ (a = k ∧ (y = 0 ∨ y = 2)) → ¬ ((k + 1 ≤ a ∧ a ≤ k + 7 ∨ a = k + 9 ∨ a = k + 11) ∧ y = n + 1) → M' a y = M a y) := by
  have e8 : (sI b + 7) / 8 = sI ((b + 7) / 8) := by
    rw [sI_adl]
    exact sI_div (b := 8) (by omega) (by omega)
  have c1 : mset M k 0 0 k 1 = sI cap := by rw [mset_n (by omega)]; exact h1
  have c2 : mset M k 0 0 k 2 = sI n := by rw [mset_n (by omega)]; exact h2
  unfold DX16_signal
  simp only [mlet]
  rw [if_neg (by rw [sI_ltl (by omega) (by decide)]; omega), if_neg (by rw [sI_llt (by decide) (by omega)]; omega), if_neg (by rw [sI_ltl (by omega) (by decide)]; omega), if_pos (by rw [sI_lel (by omega) (by decide)]; omega), c2, if_neg (by rw [sI_eql (by omega) (by decide)]; omega), e8, c1]
  constructor
  · intro w
    rw [if_neg (by rw [sI_le (by omega) (by omega)]; omega)]
  · intro w
    rw [if_pos (by rw [sI_le (by omega) (by omega)]; omega), sI_1]
    generalize hB : mset (mset M k 0 0) k 2 (sI (n + 1)) = B
    have k2 : B k 2 = sI (n + 1) := by rw [← hB, mset_s]
    have rd : ∀ (C : mwM) (a y : Nat) (x : Int32), a ≠ k → C k 2 = sI (n + 1) → mset C a y x k 2 = sI (n + 1) := fun C a y x w1 w2 => by rw [mset_n (by omega)]; exact w2
    have bB : ∀ a y, ¬ (a = k ∧ (y = 0 ∨ y = 2)) → B a y = M a y := fun a y w => by rw [← hB, mset_n (by omega), mset_n (by omega)]
    rw [k2, mck_s (show n + 1 < 129 by omega) (by omega), sI_nn (show n + 1 < 2000000000 by omega)]
    generalize hB1 : mset B (k + 1) (n + 1) (sI b) = B1
    have k3 : B1 k 2 = sI (n + 1) := by rw [← hB1]; exact rd _ _ _ _ (by omega) k2
    rw [k3, mck_s (show n + 1 < 129 by omega) (by omega), sI_nn (show n + 1 < 2000000000 by omega)]
    generalize hB2 : mset B1 (k + 2) (n + 1) (sI p) = B2
    have k4 : B2 k 2 = sI (n + 1) := by rw [← hB2]; exact rd _ _ _ _ (by omega) k3
    rw [k4, mck_s (show n + 1 < 129 by omega) (by omega), sI_nn (show n + 1 < 2000000000 by omega), bI_n]
    generalize hB3 : mset B2 (k + 3) (n + 1) (bI t) = B3
    have k5 : B3 k 2 = sI (n + 1) := by rw [← hB3]; exact rd _ _ _ _ (by omega) k4
    rw [k5, mck_s (show n + 1 < 129 by omega) (by omega), sI_nn (show n + 1 < 2000000000 by omega)]
    generalize hB4 : mset B3 (k + 4) (n + 1) (-1) = B4
    have k6 : B4 k 2 = sI (n + 1) := by rw [← hB4]; exact rd _ _ _ _ (by omega) k5
    rw [k6, mck_s (show n + 1 < 129 by omega) (by omega), sI_nn (show n + 1 < 2000000000 by omega)]
    generalize hB5 : mset B4 (k + 5) (n + 1) (sI (n + 1)) = B5
    have k7 : B5 k 2 = sI (n + 1) := by rw [← hB5]; exact rd _ _ _ _ (by omega) k6
    rw [k7, mck_s (show n + 1 < 129 by omega) (by omega), sI_nn (show n + 1 < 2000000000 by omega)]
    generalize hB6 : mset B5 (k + 6) (n + 1) 0 = B6
    have k8 : B6 k 2 = sI (n + 1) := by rw [← hB6]; exact rd _ _ _ _ (by omega) k7
    rw [k8, mck_s (show n + 1 < 129 by omega) (by omega), sI_nn (show n + 1 < 2000000000 by omega)]
    generalize hB7 : mset B6 (k + 7) (n + 1) 0 = B7
    have k9 : B7 k 2 = sI (n + 1) := by rw [← hB7]; exact rd _ _ _ _ (by omega) k8
    rw [k9, mck_s (show n + 1 < 129 by omega) (by omega), sI_nn (show n + 1 < 2000000000 by omega)]
    generalize hB8 : mset B7 (k + 9) (n + 1) 0 = B8
    have k10 : B8 k 2 = sI (n + 1) := by rw [← hB8]; exact rd _ _ _ _ (by omega) k9
    rw [k10, mck_s (show n + 1 < 129 by omega) (by omega), sI_nn (show n + 1 < 2000000000 by omega), show vp_nar .boolean 0 = (0 : Int32) from rfl]
    refine ⟨mset B8 (k + 11) (n + 1) 0, by rw [rd _ _ _ _ (by omega) k10], rd _ _ _ _ (by omega) k10, ?_, ?_, ?_, ?_, ?_, ?_, ?_, ?_, ?_, fun a y w1 w2 => ?_⟩
    · rw [mset_n (by omega), ← hB8, mset_n (by omega), ← hB7, mset_n (by omega), ← hB6, mset_n (by omega), ← hB5, mset_n (by omega), ← hB4, mset_n (by omega), ← hB3, mset_n (by omega), ← hB2, mset_n (by omega), ← hB1, mset_s]
    · rw [mset_n (by omega), ← hB8, mset_n (by omega), ← hB7, mset_n (by omega), ← hB6, mset_n (by omega), ← hB5, mset_n (by omega), ← hB4, mset_n (by omega), ← hB3, mset_n (by omega), ← hB2, mset_s]
    · rw [mset_n (by omega), ← hB8, mset_n (by omega), ← hB7, mset_n (by omega), ← hB6, mset_n (by omega), ← hB5, mset_n (by omega), ← hB4, mset_n (by omega), ← hB3, mset_s]
    · rw [mset_n (by omega), ← hB8, mset_n (by omega), ← hB7, mset_n (by omega), ← hB6, mset_n (by omega), ← hB5, mset_n (by omega), ← hB4, mset_s]
    · rw [mset_n (by omega), ← hB8, mset_n (by omega), ← hB7, mset_n (by omega), ← hB6, mset_n (by omega), ← hB5, mset_s]
    · rw [mset_n (by omega), ← hB8, mset_n (by omega), ← hB7, mset_n (by omega), ← hB6, mset_s]
    · rw [mset_n (by omega), ← hB8, mset_n (by omega), ← hB7, mset_s]
    · rw [mset_n (by omega), ← hB8, mset_s]
    · rw [mset_s]
    · rw [mset_n (by omega), ← hB8, mset_n (by omega), ← hB7, mset_n (by omega), ← hB6, mset_n (by omega), ← hB5, mset_n (by omega), ← hB4, mset_n (by omega), ← hB3, mset_n (by omega), ← hB2, mset_n (by omega), ← hB1, mset_n (by omega)]
      exact bB a y w1
