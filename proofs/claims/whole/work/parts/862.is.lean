/-! READING: which word it is -/
def isW (tx : Nat → Nat) (w s : Nat) (W : List Nat) : Bool := decide (s = W.length ∧ ∀ i, i < s → tx (w + i) = W.getD i 0)
def eN (f : Nat → Nat) : Nat → Nat → Nat
  | _, 0 => 0
  | i, m + 1 => f i + 256 * eN f (i + 1) m
theorem en_lt {f : Nat → Nat} : ∀ m i, (∀ k, k < m → f (i + k) < 256) → eN f i m < 256 ^ m := by
  intro m
  induction m with
  | zero => intro i _; show 0 < 1; omega
  | succ m ih =>
    intro i h
    have h1 := ih (i + 1) (fun k hk => by have := h (k + 1) (by omega); rw [show i + 1 + k = i + (k + 1) from by omega]; exact this)
    have h2 := h 0 (by omega)
    rw [Nat.add_zero] at h2
    show f i + 256 * eN f (i + 1) m < 256 ^ (m + 1)
    rw [Nat.pow_succ]
    omega
theorem en_inj {f g : Nat → Nat} : ∀ m m' i j, (∀ k, k < m → 0 < f (i + k) ∧ f (i + k) < 256) → (∀ k, k < m' → 0 < g (j + k) ∧ g (j + k) < 256) → eN f i m = eN g j m' → m = m' ∧ ∀ k, k < m → f (i + k) = g (j + k) := by
  intro m
  induction m with
  | zero =>
    intro m' i j hf hg h
    cases m' with
    | zero => exact ⟨rfl, fun k hk => by omega⟩
    | succ m' =>
      have := (hg 0 (by omega)).1
      rw [Nat.add_zero] at this
      have h' : 0 = g j + 256 * eN g (j + 1) m' := h
      omega
  | succ m ih =>
    intro m' i j hf hg h
    have f0 := hf 0 (by omega)
    rw [Nat.add_zero] at f0
    cases m' with
    | zero =>
      have h' : f i + 256 * eN f (i + 1) m = 0 := h
      omega
    | succ m' =>
      have g0 := hg 0 (by omega)
      rw [Nat.add_zero] at g0
      have h' : f i + 256 * eN f (i + 1) m = g j + 256 * eN g (j + 1) m' := h
      have e0 : f i = g j := by omega
      have e1 : eN f (i + 1) m = eN g (j + 1) m' := by omega
      obtain ⟨q1, q2⟩ := ih m' (i + 1) (j + 1) (fun k hk => by have := hf (k + 1) (by omega); rw [show i + 1 + k = i + (k + 1) from by omega]; exact this) (fun k hk => by have := hg (k + 1) (by omega); rw [show j + 1 + k = j + (k + 1) from by omega]; exact this) e1
      refine ⟨by omega, fun k hk => ?_⟩
      cases k with
      | zero => rw [Nat.add_zero, Nat.add_zero]; exact e0
      | succ k => have := q2 k (by omega); rw [show i + (k + 1) = i + 1 + k from by omega, show j + (k + 1) = j + 1 + k from by omega]; exact this
theorem en_cg {f g : Nat → Nat} : ∀ m i j, (∀ k, k < m → f (i + k) = g (j + k)) → eN f i m = eN g j m := by
  intro m
  induction m with
  | zero => intro i j _; rfl
  | succ m ih =>
    intro i j h
    have h0 := h 0 (by omega)
    rw [Nat.add_zero, Nat.add_zero] at h0
    show f i + 256 * eN f (i + 1) m = g j + 256 * eN g (j + 1) m
    rw [h0, ih (i + 1) (j + 1) (fun k hk => by have := h (k + 1) (by omega); rw [show i + 1 + k = i + (k + 1) from by omega, show j + 1 + k = j + (k + 1) from by omega]; exact this)]
/-- the two numbers of a word -/
def okW (W : List Nat) (a1 a2 : Int64) : Bool := decide (1 ≤ W.length ∧ W.length ≤ 10 ∧ (∀ i, i < W.length → 0 < W.getD i 0 ∧ W.getD i 0 < 256 ∧ W.getD i 0 ≠ 32) ∧ uL a1 = eN (fun i => W.getD i 0) 0 (if W.length < 8 then W.length else 8) ∧ uL a2 = eN (fun i => W.getD i 0) 8 (W.length - 8))
theorem m_is9 {fu n w e : Nat} {a1 a2 : Int64} {W : List Nat} {tx : Nat → Nat} {M : mwM} {L : mwL} (hfu : 20 ≤ fu) (hT : TxM M n tx) (h9 : M 732 9 = sI w) (h10 : M 732 10 = sI e) (hw : w < e) (he : e ≤ n) (hW : okW W a1 a2 = true) : DX19_is fu a1 a2 M L = some (bI (isW tx w (e - w) W), M, L) := by
  have hn := hT.2.1
  obtain ⟨l1, l2, l3, l4, l5⟩ := of_decide_eq_true hW
  unfold DX19_is
  rw [h9, h10, sI_sub (by omega)]
  by_cases c10 : e - w ≤ 10
  · rw [if_pos (show sI (e - w) ≤ 10 by rw [show (10 : Int32) = sI 10 from rfl, sI_le (by omega) (by omega)]; exact c10), mlet_e]
    obtain ⟨s, hs⟩ : ∃ s, s = e - w := ⟨_, rfl⟩
    have sm1 : ∀ k : Nat, sI (k + 1) + (-1) = sI k := fun k => by rw [← sI_1, Int32.add_assoc, show (1 : Int32) + (-1) = 0 by decide, Int32.add_zero]
    have es1 : sI e - 1 = sI (w + s) + (-1) := by
      rw [show w + s = e from by omega, Int32.sub_eq_add_neg]
    rw [es1]
    have key : ∀ (r q : Nat) (v5 v7 : Int64), r ≤ s → r < q → uL v5 = eN tx (w + r) ((if s < 8 then s else 8) - r) → uL v7 = eN tx (w + (if r < 8 then 8 else r)) (s - (if r < 8 then 8 else r)) → fX19_is_h30 fu a1 a2 q (v5, v7, sI (w + r) + (-1), M, L) = some (bI (decide (uL a1 = eN tx w (if s < 8 then s else 8) ∧ uL a2 = eN tx (w + 8) (s - 8))), M, L) := by
      intro r
      induction r with
      | zero =>
        intro q v5 v7 hr hq h5 h7
        obtain ⟨q, rfl⟩ : ∃ y, q = y + 1 := ⟨q - 1, by omega⟩
        show fX19_is_i30 fu a1 a2 (fX19_is_h30 fu a1 a2 q) v5 v7 (sI (w + 0) + (-1)) M L = _
        unfold fX19_is_i30 fX19_is_b112 fX19_is_b113
        have hlt : sI (w + 0) + (-1) < M 732 9 := by
          rw [h9, Nat.add_zero]
          cases w with
          | zero => decide
          | succ w => rw [sm1, sI_lt (by omega) (by omega)]; omega
        rw [if_pos hlt]
        rw [Nat.add_zero, Nat.sub_zero] at h5
        rw [if_pos (by omega)] at h7
        rw [← h5, ← h7]
        by_cases c1 : v5 = a1
        · rw [if_pos ((lg_cmp_eq _ _).mpr c1)]
          by_cases c2 : v7 = a2
          · rw [if_pos ((lg_cmp_eq _ _).mpr c2), c1, c2, decide_eq_true ⟨rfl, rfl⟩]
            rfl
          · rw [if_neg (fun z => c2 ((lg_cmp_eq _ _).mp z)), decide_eq_false (fun z => c2 (uL_inj z.2).symm)]
            rfl
        · rw [if_neg (fun z => c1 ((lg_cmp_eq _ _).mp z)), decide_eq_false (fun z => c1 (uL_inj z.1).symm)]
          rfl
      | succ r ih =>
        intro q v5 v7 hr hq h5 h7
        obtain ⟨q, rfl⟩ : ∃ y, q = y + 1 := ⟨q - 1, by omega⟩
        show fX19_is_i30 fu a1 a2 (fX19_is_h30 fu a1 a2 q) v5 v7 (sI (w + (r + 1)) + (-1)) M L = _
        unfold fX19_is_i30 fX19_is_b88
        obtain ⟨t1, t2, t3⟩ := hT.2.2 (w + r) (by omega)
        rw [show w + (r + 1) = w + r + 1 from rfl, sm1, h9, if_neg (show ¬ sI (w + r) < sI w by rw [sI_lt (by omega) (by omega)]; omega), sI_sub (by omega), show w + r - w = r from by omega]
        have eSt : ∀ m, tx (w + r) + 256 * eN tx (w + r + 1) m = eN tx (w + r) (m + 1) := fun m => rfl
        by_cases c8 : 8 ≤ r
        · rw [if_pos (show (8 : Int32) ≤ sI r by rw [sI_lle (by decide) (by omega)]; exact c8), mck_s (by omega) (by omega), mlet_e, mlet_e, sI_nn (by omega), t1]
          rw [if_neg (by omega)] at h7
          rw [if_neg (show ¬ s < 8 by omega)] at h5
          refine ih q v5 _ (by omega) (by omega) ?_ ?_
          · rw [h5, if_neg (show ¬ s < 8 by omega), show 8 - (r + 1) = 0 from by omega, show 8 - r = 0 from by omega]
            rfl
          · have hb : uL v7 * 256 + tx (w + r) < 2 ^ 64 := by
              have := en_lt (f := tx) (s - (r + 1)) (w + (r + 1)) (fun k hk => (hT.2.2 _ (by omega)).2.2)
              rw [← h7] at this
              have : 256 ^ (s - (r + 1)) ≤ 256 ^ 2 := Nat.pow_le_pow_right (by omega) (by omega)
              omega
            rw [uL_mul t3 hb, h7, if_neg (by omega), show s - r = s - (r + 1) + 1 from by omega, ← eSt, Nat.add_comm (_ * 256), Nat.mul_comm _ 256]
            rfl
        · rw [if_neg (show ¬ (8 : Int32) ≤ sI r by rw [sI_lle (by decide) (by omega)]; exact c8), mck_s (by omega) (by omega), mlet_e, mlet_e, sI_nn (by omega), t1]
          refine ih q _ v7 (by omega) (by omega) ?_ ?_
          · have hb : uL v5 * 256 + tx (w + r) < 2 ^ 64 := by
              have := en_lt (f := tx) ((if s < 8 then s else 8) - (r + 1)) (w + (r + 1)) (fun k hk => (hT.2.2 _ (by split at hk <;> omega)).2.2)
              rw [← h5] at this
              have : 256 ^ ((if s < 8 then s else 8) - (r + 1)) ≤ 256 ^ 7 := Nat.pow_le_pow_right (by omega) (by split <;> omega)
              omega
            rw [uL_mul t3 hb, h5]
            have : (if s < 8 then s else 8) - r = (if s < 8 then s else 8) - (r + 1) + 1 := by split <;> omega
            rw [this, ← eSt, Nat.add_comm (_ * 256), Nat.mul_comm _ 256]
            rfl
          · rw [h7, if_pos (show r < 8 by omega)]
            by_cases c9 : r + 1 < 8
            · rw [if_pos c9]
            · rw [if_neg c9, show r + 1 = 8 from by omega]
    have k0 := key s fu 0 0 (Nat.le_refl _) (by omega) (by rw [show (if s < 8 then s else 8) - s = 0 by split <;> omega]; rfl) (by rw [show s - (if s < 8 then 8 else s) = 0 by split <;> omega]; rfl)
    rw [k0, ← hs]
    congr 3
    unfold isW
    refine decide_eq_decide.mpr ⟨fun z => ?_, fun z => ?_⟩
    · obtain ⟨z1, z2⟩ := z
      rw [l4] at z1
      rw [l5] at z2
      have i1 := en_inj (f := fun i => W.getD i 0) (g := tx) (if W.length < 8 then W.length else 8) (if s < 8 then s else 8) 0 w (fun k hk => by
        obtain ⟨u1, u2, _⟩ := l3 (0 + k) (by split at hk <;> omega)
        exact ⟨u1, u2⟩) (fun k hk => by
        obtain ⟨_, u1, u2⟩ := hT.2.2 (w + k) (by split at hk <;> omega)
        exact ⟨u1, u2⟩) z1
      have i2 := en_inj (f := fun i => W.getD i 0) (g := tx) (W.length - 8) (s - 8) 8 (w + 8) (fun k hk => by
        obtain ⟨u1, u2, _⟩ := l3 (8 + k) (by omega)
        exact ⟨u1, u2⟩) (fun k hk => by
        obtain ⟨_, u1, u2⟩ := hT.2.2 (w + 8 + k) (by omega)
        exact ⟨u1, u2⟩) z2
      obtain ⟨i1, i3⟩ := i1
      obtain ⟨i2, i4⟩ := i2
      have hl : s = W.length := by
        split at i1 <;> split at i1 <;> omega
      refine ⟨hl, fun i hi => ?_⟩
      by_cases ci : i < 8
      · have := i3 i (by split <;> omega)
        rw [Nat.zero_add] at this
        exact this.symm
      · have := i4 (i - 8) (by omega)
        rw [show 8 + (i - 8) = i from by omega, show w + 8 + (i - 8) = w + i from by omega] at this
        exact this.symm
    · obtain ⟨z1, z2⟩ := z
      rw [l4, l5, ← z1]
      refine ⟨en_cg _ _ _ (fun k hk => ?_), en_cg _ _ _ (fun k hk => ?_)⟩
      · rw [z2 k (by split at hk <;> omega), Nat.zero_add]
      · rw [show w + 8 + k = w + (8 + k) from by omega, z2 (8 + k) (by omega)]
  · rw [if_neg (show ¬ sI (e - w) ≤ 10 by rw [show (10 : Int32) = sI 10 from rfl, sI_le (by omega) (by omega)]; exact c10)]
    have : isW tx w (e - w) W = false := decide_eq_false (fun z => by omega)
    rw [this]
    rfl
