/-! what is on its way, as the reference keeps it -/
def obL (n : Nat → Nat → Nat) (b : Nat → Nat → Bool) : List Nat := (List.range (n 0 2)).filter (fun f => !b 1 f)
def idO (n : Nat → Nat → Nat) (b : Nat → Nat → Bool) (f : Nat) : Nat := 1536 + 2 * n 1 (n 11 f) + (if toT n b f = true then 1 else 0)
def TfN (M : mwM) (n : Nat → Nat → Nat) (b : Nat → Nat → Bool) (e : Nat → Nat) : Prop :=
  M 732 88 = sI (n 0 0) ∧ (∀ m, 1 ≤ m → m ≤ n 0 0 → M 927 m = sI (n 1 m) ∧ M 928 m = bI (b 0 m)) ∧ M 732 95 = sI (e 0) ∧ (∃ en, M 732 96 = sI en ∧ en ≤ eS e ∧ b 2 0 = decide (en < eS e)) ∧ M 732 94 = sI (n 0 2) ∧ M 732 91 = sI (obL n b).length ∧ (∀ k (h : k < (obL n b).length), M 929 k = sI ((obL n b)[k] + 1) ∧ M 930 k = sI (idO n b (obL n b)[k])) ∧ e 0 + eS e + 2 * (obL n b).length ≤ 208 * n 0 3 + 2 * n 0 2
theorem fil_er : ∀ (l : List Nat) (k : Nat) (hk : k < l.length), l.Nodup → l.filter (fun g => !decide (g = l[k])) = l.eraseIdx k := by
  intro l
  induction l with
  | nil => intro k hk; exact absurd hk (by simp)
  | cons x t ih =>
    intro k hk hn
    rw [List.nodup_cons] at hn
    cases k with
    | zero =>
      rw [List.filter_cons]
      simp only [List.getElem_cons_zero, decide_true, Bool.not_true, List.eraseIdx_cons_zero]
      rw [if_neg (by decide)]
      refine List.filter_eq_self.mpr (fun a ha => ?_)
      have : a ≠ x := fun z => hn.1 (z ▸ ha)
      simp [this]
    | succ k =>
      have hk' : k < t.length := by simpa using hk
      rw [List.filter_cons]
      simp only [List.getElem_cons_succ, List.eraseIdx_cons_succ]
      have : x ≠ t[k] := fun z => hn.1 (z ▸ List.getElem_mem hk')
      rw [if_pos (by simp [this]), ih k hk' hn.2]
theorem ob_pw {n : Nat → Nat → Nat} {b : Nat → Nat → Bool} : (obL n b).Pairwise (· < ·) := List.Pairwise.filter _ List.pairwise_lt_range
theorem ob_nd {n : Nat → Nat → Nat} {b : Nat → Nat → Bool} : (obL n b).Nodup := List.Pairwise.imp (fun h => Nat.ne_of_lt h) ob_pw
theorem ob_mem {n : Nat → Nat → Nat} {b : Nat → Nat → Bool} {f : Nat} : f ∈ obL n b ↔ f < n 0 2 ∧ b 1 f = false := by
  unfold obL
  rw [List.mem_filter, List.mem_range]
  simp
theorem ob_lt {n : Nat → Nat → Nat} {b : Nat → Nat → Bool} {j k : Nat} (hj : j < (obL n b).length) (hk : k < (obL n b).length) (h : (obL n b)[j] < (obL n b)[k]) : j < k := by
  by_cases hq : j < k
  · exact hq
  · exfalso
    by_cases he : k = j
    · subst he
      omega
    · have := List.pairwise_iff_getElem.mp (ob_pw (n := n) (b := b)) k j hk hj (by omega)
      omega
theorem ob_len {n : Nat → Nat → Nat} {b : Nat → Nat → Bool} : (obL n b).length ≤ n 0 2 := by
  unfold obL
  have := List.length_filter_le (fun f => !b 1 f) (List.range (n 0 2))
  rw [List.length_range] at this
  exact this
theorem ob_er {n n' : Nat → Nat → Nat} {b b' : Nat → Nat → Bool} {k : Nat} (hk : k < (obL n b).length) (h0 : n' 0 2 = n 0 2) (hb : ∀ g, g < n 0 2 → b' 1 g = (b 1 g || decide (g = (obL n b)[k]))) : obL n' b' = (obL n b).eraseIdx k := by
  rw [← fil_er _ k hk ob_nd]
  generalize (obL n b)[k] = x at *
  unfold obL
  rw [List.filter_filter, h0]
  refine List.filter_congr (fun g hg => ?_)
  rw [hb g (List.mem_range.mp hg)]
  cases b 1 g <;> simp
theorem id_eq {n : Nat → Nat → Nat} {b : Nat → Nat → Bool} {f c : Nat} {tt : Bool} : idO n b f = 1536 + 2 * c + (if tt = true then 1 else 0) ↔ n 1 (n 11 f) = c ∧ toT n b f = tt := by
  unfold idO
  cases toT n b f <;> cases tt <;> simp <;> omega
/-! what a frame that reaches its aim leaves alone -/
theorem rv_n {f i j : Nat} {p : PB} (h : (i = 0 ∧ j ≠ 1) ∨ i = 1 ∨ i = 2 ∨ i = 4) : (rvQ f p).1.1 i j = p.1 i j := by
  unfold rvQ nxQ
  split
  · dsimp only
    split
    · exact mset_n (by omega)
    · rfl
  · split
    · split
      · split
        · split
          · dsimp only
            unfold gtN
            rw [mset_n (by omega), mset_n (by omega), mset_n (by omega)]
          · exact mset_n (by omega)
        · exact mset_n (by omega)
      · rfl
    · split
      · exact mset_n (by omega)
      · dsimp only
        unfold fsP fsN
        dsimp only
        rw [mk_r (by omega) (by omega), mset_n (by omega), mset_n (by omega), mset_n (by omega), mset_n (by omega), mset_n (by omega)]
theorem fs_F {m : Nat} {n : Nat → Nat → Nat} : fsN m n 0 1 = n 0 1 := by
  unfold fsN
  rw [mset_n (by omega), mset_n (by omega), mset_n (by omega), mset_n (by omega), mset_n (by omega)]
theorem rv_f {f i g : Nat} {p : PB} (h : 10 ≤ i ∧ i ≤ 12) (hg : g < p.1 0 1) : (rvQ f p).1.1 i g = p.1 i g := by
  unfold rvQ nxQ
  split
  · dsimp only
    split
    · exact mset_n (by omega)
    · rfl
  · split
    · split
      · split
        · split
          · dsimp only
            unfold gtN
            rw [mset_n (by omega), mset_n (by omega), mset_n (by omega)]
          · exact mset_n (by omega)
        · exact mset_n (by omega)
      · rfl
    · split
      · exact mset_n (by omega)
      · dsimp only
        unfold fsP
        dsimp only
        rw [mk_o (by omega) (by rw [fs_F]; omega)]
        unfold fsN
        rw [mset_n (by omega), mset_n (by omega), mset_n (by omega), mset_n (by omega), mset_n (by omega)]
theorem rv_b {f i g : Nat} {p : PB} (h : i = 0 ∨ (i = 1 ∧ g < p.1 0 1)) : (rvQ f p).1.2 i g = p.2 i g := by
  unfold rvQ nxQ
  split
  · dsimp only
    split <;> rfl
  · split
    · split
      · split
        · split <;> rfl
        · exact mset_n (by omega)
      · rfl
    · split
      · exact re_b (by omega)
      · dsimp only
        unfold fsP
        dsimp only
        unfold mkB
        rw [mset_n (by rw [fs_F]; omega), mset_n (by omega), re_b (by omega)]
theorem rv_m {f : Nat} {p : PB} : (rvQ f p).2 = 0 ∨ (rvQ f p).2 = p.1 11 f := by
  unfold rvQ nxQ
  split
  · exact Or.inl rfl
  · split
    · split
      · split
        · split
          · exact Or.inl rfl
          · exact Or.inr rfl
        · exact Or.inl rfl
      · exact Or.inl rfl
    · split
      · exact Or.inr rfl
      · exact Or.inl rfl
