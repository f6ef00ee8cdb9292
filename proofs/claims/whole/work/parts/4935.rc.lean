/-! which cells hold references: one walk along the table of kinds -/
def rc_chk : List (Nat × Nat) → Nat → List Nat → Bool
  | [], _, _ => true
  | q :: r, k, [] => decide (q.1 < 6) && rc_chk r (k + 1) []
  | q :: r, k, c :: cs => if k = c then rc_chk r (k + 1) cs else decide (q.1 < 6) && rc_chk r (k + 1) (c :: cs)
theorem rc_mem : ∀ (l : List (Nat × Nat)) (k : Nat) (cs : List Nat), rc_chk l k cs = true → ∀ (i : Nat) (q : Nat × Nat), l[i]? = some q → ¬ q.1 < 6 → k + i ∈ cs := by
  intro l
  induction l with
  | nil => intro k cs h i q hi hq; simp at hi
  | cons p r ih =>
    intro k cs h i q hi hq
    cases cs with
    | nil =>
      simp only [rc_chk, Bool.and_eq_true, decide_eq_true_eq] at h
      cases i with
      | zero =>
        have e : p = q := by simpa using hi
        exact absurd (e ▸ h.1) hq
      | succ i => exact absurd (ih (k + 1) [] h.2 i q (by simpa using hi) hq) List.not_mem_nil
    | cons c cs =>
      by_cases hk : k = c
      · simp only [rc_chk, if_pos hk] at h
        cases i with
        | zero => rw [hk]; exact List.mem_cons_self
        | succ i =>
          have h1 := ih (k + 1) cs h i q (by simpa using hi) hq
          rw [show k + (i + 1) = k + 1 + i by omega]
          exact List.mem_cons_of_mem _ h1
      · simp only [rc_chk, if_neg hk, Bool.and_eq_true, decide_eq_true_eq] at h
        cases i with
        | zero =>
          have e : p = q := by simpa using hi
          exact absurd (e ▸ h.1) hq
        | succ i =>
          have h1 := ih (k + 1) (c :: cs) h.2 i q (by simpa using hi) hq
          rw [show k + (i + 1) = k + 1 + i by omega]
          exact h1
theorem rc_ok : rc_chk TFl 0 (RCc ++ RCm.map (732 + ·)) = true := by decide +kernel
theorem need_rc {a j : Nat} (ha : a < NF) (hn : need a j = true) : a ∈ RCc ∨ ∃ o, o ∈ RCm ∧ a = 732 + o := by
  have h6 : ¬ (TF a).1 < 6 := fun q => by
    unfold need at hn
    rw [if_pos q] at hn
    cases hn
  have hm : a ∈ RCc ++ RCm.map (732 + ·) := by
    cases hx : TFl[a]? with
    | none =>
      refine absurd ?_ h6
      show (TFl.getD a (0, 0)).1 < 6
      rw [List.getD_eq_getElem?_getD, hx]
      decide
    | some q =>
      have h7 : TF a = q := by
        show TFl.getD a (0, 0) = q
        rw [List.getD_eq_getElem?_getD, hx]
        rfl
      have h8 := rc_mem TFl 0 _ rc_ok a q hx (by rw [← h7]; exact h6)
      rw [Nat.zero_add] at h8
      exact h8
  rcases List.mem_append.mp hm with h | h
  · exact Or.inl h
  · obtain ⟨o, ho, rfl⟩ := List.mem_map.mp h
    exact Or.inr ⟨o, ho, rfl⟩
