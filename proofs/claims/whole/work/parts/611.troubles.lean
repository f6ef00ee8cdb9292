/-! how many below N -/
def cnt (p : Nat → Bool) : Nat → Nat
  | 0 => 0
  | n + 1 => cnt p n + (if p n then 1 else 0)
theorem cnt_le (p : Nat → Bool) (n : Nat) : cnt p n ≤ n := by
  induction n with
  | zero => exact Nat.le_refl _
  | succ n ih =>
    show cnt p n + (if p n then 1 else 0) ≤ _
    split <;> omega
theorem cnt_filter (p : Nat → Bool) (n : Nat) : cnt p n = ((List.range n).filter p).length := by
  induction n with
  | zero => rfl
  | succ n ih =>
    rw [List.range_succ, List.filter_append, List.length_append, ← ih]
    show cnt p n + (if p n then 1 else 0) = _
    by_cases h : p n <;> simp [h]
theorem cnt_list {p : Nat → Bool} {n : Nat} {l : List Nat} (hd : l.Nodup) (hl : ∀ x ∈ l, x < n) (hp : ∀ i, i < n → (p i = true ↔ i ∈ l)) : cnt p n = l.length := by
  rw [cnt_filter]
  apply List.Perm.length_eq
  rw [List.perm_ext_iff_of_nodup (List.nodup_range.filter p) hd]
  intro a
  rw [List.mem_filter, List.mem_range]
  constructor
  · intro h; exact (hp a h.1).mp h.2
  · intro h; exact ⟨hl a h, (hp a (hl a h)).mpr h⟩
theorem cnt_congr {p q : Nat → Bool} {n : Nat} (h : ∀ i, i < n → p i = q i) : cnt p n = cnt q n := by
  induction n with
  | zero => rfl
  | succ n ih =>
    show cnt p n + (if p n then 1 else 0) = cnt q n + (if q n then 1 else 0)
    rw [ih (fun i hi => h i (by omega)), h n (by omega)]
/-- the memory of troubles: in the order in which they came, on one side by places, on the other by numbers -/
def oke (M : mwM) (N : Nat) (l : List Nat) (sd : Nat → Nat) (E : Nat) : Prop :=
  l.length ≤ 8 ∧ (∀ x ∈ l, x < N) ∧ M 139 3 = sI l.length ∧ (∀ e (h : e < l.length), M 153 e = sI (l[e]'h)) ∧ (∀ i, i < N → M 916 (i + 1) = sI (sd i)) ∧ (∀ i, i < N → (0 < sd i ↔ i ∈ l)) ∧ l.Pairwise (fun x y => sd x < sd y) ∧ (∃ t, t ≤ E ∧ M 902 19 = sI t ∧ ∀ i, i < N → sd i ≤ t) ∧ (∀ i ∈ l, M 151 i = M 918 (8 * (i + 1) + 1) ∧ M 152 i = M 918 (8 * (i + 1) + 5))
theorem oke_nodup {l : List Nat} {sd : Nat → Nat} (h : l.Pairwise (fun x y => sd x < sd y)) : l.Nodup := h.imp (fun hxy e => by subst e; omega)
theorem c_entryOf {fu : Nat} {M : mwM} {L : mwL} {i : Nat} {l : List Nat} (hf : 9 ≤ fu) (hi : i < 30) (h8 : l.length ≤ 8) (hl : ∀ x ∈ l, x < 30) (hE : M 139 3 = sI l.length) (hM : ∀ e (h : e < l.length), M 153 e = sI (l[e]'h)) : wq (DX10_entryOf fu (sI i) M L) (fun q => q.2 = (M, L) ∧ ((q.1 = -1 ∧ i ∉ l) ∨ ∃ e, ∃ h : e < l.length, q.1 = sI e ∧ l[e]'h = i)) := by
  refine wq_for (body := fun r2 s => fX10_entryOf_i2 fu (sI i) r2 s.1 s.2.1 s.2.2) (fun j (_ : Unit) => (sI j, M, L)) (fun j _ => ∀ e (h : e < l.length), e < j → l[e]'h ≠ i) l.length ?_ ?_ l.length 0 () fu (by omega) (by omega) (fun _ _ h => by omega)
  · intro j _ r hj hP ih
    show wq (fX10_entryOf_i2 fu (sI i) r (sI j) M L) _
    unfold fX10_entryOf_i2
    rw [hE, if_neg (by rw [sI_le (by omega) (by omega)]; omega), mck_s (by omega) (by omega), sI_nn (by omega), hM j hj]
    have hlj := hl _ (List.getElem_mem hj)
    by_cases hc : l[j] = i
    · rw [if_pos (by rw [hc])]
      exact wq_some ⟨rfl, Or.inr ⟨j, hj, rfl, hc⟩⟩
    · rw [if_neg (by rw [sI_eq (by omega) (by omega)]; exact hc)]
      simp only [mlet]
      rw [sI_1]
      refine ih () ?_
      intro e he hej
      by_cases hh : e = j
      · subst hh; exact hc
      · exact hP e he (by omega)
  · intro _ r hP
    show wq (fX10_entryOf_i2 fu (sI i) r (sI l.length) M L) _
    unfold fX10_entryOf_i2
    rw [hE, if_pos (by rw [sI_le (by omega) (by omega)]; omega)]
    refine wq_some ⟨rfl, Or.inl ⟨rfl, ?_⟩⟩
    intro hm
    obtain ⟨e, he, h⟩ := List.getElem_of_mem hm
    exact hP e he he h
theorem c_remove {fu : Nat} {M : mwM} {L : mwL} {e : Nat} {l : List Nat} (hf : 9 ≤ fu) (h8 : l.length ≤ 8) (he : e < l.length) (hE : M 139 3 = sI l.length) (hM : ∀ e (h : e < l.length), M 153 e = sI (l[e]'h)) : wq (DX10_removeEntry fu (sI e) M L) (fun q => q.2 = L ∧ q.1 139 3 = sI (l.eraseIdx e).length ∧ (∀ x (h : x < (l.eraseIdx e).length), q.1 153 x = sI ((l.eraseIdx e)[x]'h)) ∧ ∀ a j, a ≠ 153 → ¬ (a = 139 ∧ j = 3) → q.1 a j = M a j) := by
  have hlen : (l.eraseIdx e).length = l.length - 1 := List.length_eraseIdx_of_lt he
  unfold DX10_removeEntry
  rw [if_pos (by rw [sI_lle (by omega) (by omega)]; omega)]
  refine wq_for (body := fun r2 s => fX10_removeEntry_i7 fu (sI e) r2 s.1 s.2.1 s.2.2) (fun j (a : mwM) => (sI j, a, L)) (fun j a => e ≤ j ∧ a 139 3 = sI l.length ∧ (∀ x (h : x < l.length), a 153 x = if e ≤ x ∧ x < j then sI (l[x + 1]?.getD 0) else sI (l[x]'h)) ∧ ∀ b y, b ≠ 153 → a b y = M b y) (l.length - 1) ?_ ?_ (l.length - 1 - e) e M fu (by omega) (by omega) ⟨Nat.le_refl _, hE, ?_, fun _ _ _ => rfl⟩
  · intro j a r hj ⟨h0, h1, h2, h3⟩ ih
    show wq (fX10_removeEntry_i7 fu (sI e) r (sI j) a L) _
    unfold fX10_removeEntry_i7
    rw [h1, sI_1, if_neg (by rw [sI_le (by omega) (by omega)]; omega), mck_s (by omega) (by omega), mck_s (by omega) (by omega)]
    simp only [mlet]
    rw [sI_nn (by omega), sI_nn (by omega)]
    refine ih _ ⟨by omega, by rw [mset_k (by decide)]; exact h1, ?_, ?_⟩
    · intro x hx
      by_cases hxj : x = j
      · subst hxj
        rw [mset_s, h2 (x + 1) (by omega)]
        rw [if_neg (by omega), if_pos (by omega), List.getElem?_eq_getElem (by omega)]; rfl
      · rw [mset_j hxj, h2 x hx]
        by_cases hc : e ≤ x ∧ x < j
        · rw [if_pos hc, if_pos (by omega)]
        · rw [if_neg hc, if_neg (by omega)]
    · intro b y hb
      rw [mset_k hb]
      exact h3 b y hb
  · intro a r ⟨_, h1, h2, h3⟩
    show wq (fX10_removeEntry_i7 fu (sI e) r (sI (l.length - 1)) a L) _
    unfold fX10_removeEntry_i7
    rw [h1, sI_1, if_pos (by rw [sI_le (by omega) (by omega)]; omega)]
    simp only [mlet]
    refine wq_some ⟨rfl, ?_, ?_, ?_⟩
    · dsimp only
      rw [mset_s, hlen]
      have : sI l.length = sI (l.length - 1) + 1 := by rw [sI_1]; congr 1; omega
      rw [this]
      simp
    · intro x hx
      dsimp only
      rw [mset_k (by decide), h2 x (by omega), List.getElem_eraseIdx]
      by_cases hc : e ≤ x
      · rw [if_pos (by omega), dif_neg (by omega), List.getElem?_eq_getElem (by omega)]; rfl
      · rw [if_neg (by omega), dif_pos (by omega)]
    · intro b y hb hn
      dsimp only
      rw [mset_n hn]
      exact h3 b y hb
  · intro x hx
    rw [if_neg (by omega)]
    exact hM x hx
