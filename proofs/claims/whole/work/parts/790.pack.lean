/-! THE PACKING: the choices, in numbers alone -/
def upd1 (ch : Nat → Nat) (i f : Nat) : Nat → Nat := fun x => if x = i then f else ch x
theorem upd1_s {ch : Nat → Nat} {i f : Nat} : upd1 ch i f i = f := by unfold upd1; rw [if_pos rfl]
theorem upd1_n {ch : Nat → Nat} {i f x : Nat} (h : x ≠ i) : upd1 ch i f x = ch x := by unfold upd1; rw [if_neg h]
/-- what frame f holds of the first i -/
def fil (ch sz : Nat → Nat) : Nat → Nat → Nat
  | 0, _ => 0
  | i + 1, f => fil ch sz i f + if ch i = f then sz i else 0
/-- how many frames the first i opened -/
def opn (ch : Nat → Nat) : Nat → Nat
  | 0 => 0
  | i + 1 => if opn ch i < ch i + 1 then ch i + 1 else opn ch i
theorem fil_c {ch ch' sz : Nat → Nat} {i : Nat} (h : ∀ j, j < i → ch j = ch' j) (f : Nat) : fil ch sz i f = fil ch' sz i f := by
  induction i with
  | zero => rfl
  | succ i ih =>
    show fil ch sz i f + _ = fil ch' sz i f + _
    rw [ih (fun j hj => h j (by omega)), h i (by omega)]
theorem opn_c {ch ch' : Nat → Nat} {i : Nat} (h : ∀ j, j < i → ch j = ch' j) : opn ch i = opn ch' i := by
  induction i with
  | zero => rfl
  | succ i ih =>
    show (if opn ch i < ch i + 1 then ch i + 1 else opn ch i) = (if opn ch' i < ch' i + 1 then ch' i + 1 else opn ch' i)
    rw [ih (fun j hj => h j (by omega)), h i (by omega)]
theorem fil_u {ch sz : Nat → Nat} {i f : Nat} (x : Nat) : fil (upd1 ch i f) sz i x = fil ch sz i x := fil_c (fun j hj => upd1_n (by omega)) x
theorem opn_u {ch : Nat → Nat} {i f : Nat} : opn (upd1 ch i f) i = opn ch i := opn_c (fun j hj => upd1_n (by omega))
theorem fil_u1 {ch sz : Nat → Nat} {i f x : Nat} : fil (upd1 ch i f) sz (i + 1) x = fil ch sz i x + if f = x then sz i else 0 := by
  show fil (upd1 ch i f) sz i x + (if upd1 ch i f i = x then sz i else 0) = _
  rw [fil_u, upd1_s]
theorem opn_u1 {ch : Nat → Nat} {i f : Nat} : opn (upd1 ch i f) (i + 1) = if opn ch i < f + 1 then f + 1 else opn ch i := by
  show (if opn (upd1 ch i f) i < upd1 ch i f i + 1 then upd1 ch i f i + 1 else opn (upd1 ch i f) i) = _
  rw [opn_u, upd1_s]
theorem opn_lt {ch : Nat → Nat} {i j : Nat} (h : j < i) : ch j < opn ch i := by
  induction i with
  | zero => omega
  | succ i ih =>
    show ch j < (if opn ch i < ch i + 1 then ch i + 1 else opn ch i)
    by_cases e : j = i
    · subst e; split <;> omega
    · have := ih (by omega)
      split <;> omega
theorem opn_mono {ch : Nat → Nat} {i : Nat} : opn ch i ≤ opn ch (i + 1) := by
  show opn ch i ≤ (if opn ch i < ch i + 1 then ch i + 1 else opn ch i)
  split <;> omega
theorem fil_0 {ch sz : Nat → Nat} {i f : Nat} (h : opn ch i ≤ f) : fil ch sz i f = 0 := by
  induction i with
  | zero => rfl
  | succ i ih =>
    have h1 := opn_lt (ch := ch) (show i < i + 1 by omega)
    have h2 := opn_mono (ch := ch) (i := i)
    show fil ch sz i f + _ = 0
    rw [ih (by omega), if_neg (by omega)]
/-- a row of choices in which no frame is passed over -/
def tgt (ch : Nat → Nat) (i : Nat) : Prop := ∀ j, j < i → ch j ≤ opn ch j
theorem tgt_le {ch : Nat → Nat} {i : Nat} (h : tgt ch i) : opn ch i ≤ i := by
  induction i with
  | zero => exact Nat.le_refl _
  | succ i ih =>
    have h1 := ih (fun j hj => h j (by omega))
    have h2 := h i (by omega)
    show (if opn ch i < ch i + 1 then ch i + 1 else opn ch i) ≤ i + 1
    split <;> omega
theorem tgt_u {ch : Nat → Nat} {i f : Nat} (h : tgt ch i) (hf : f ≤ opn ch i) : tgt (upd1 ch i f) (i + 1) := by
  intro j hj
  by_cases e : j = i
  · subst e; rw [upd1_s, opn_u]; exact hf
  · rw [upd1_n e, opn_c (ch' := ch) (fun x hx => upd1_n (by omega))]
    exact h j (by omega)
/-- the first of some tries that answers -/
def tr {α : Type} (g : Nat → Option α) : Nat → Nat → Option α
  | 0, _ => none
  | n + 1, f => match g f with
    | some x => some x
    | none => tr g n (f + 1)
/-- the first way to put the groups from i on -/
def fnd (sz : Nat → Nat) (room most : Nat) : Nat → Nat → (Nat → Nat) → Option (Nat → Nat)
  | 0, _, ch => some ch
  | r + 1, i, ch => tr (fun f => if fil ch sz i f + sz i ≤ room then fnd sz room most r (i + 1) (upd1 ch i f) else none) (if opn ch i < most then opn ch i + 1 else most) 0
theorem tr_some {α : Type} {g : Nat → Option α} : ∀ (n f : Nat) (x : α), tr g n f = some x → ∃ y, f ≤ y ∧ y < f + n ∧ g y = some x := by
  intro n
  induction n with
  | zero => intro f x h; cases h
  | succ n ih =>
    intro f x h
    unfold tr at h
    cases hg : g f with
    | some z =>
      rw [hg] at h
      exact ⟨f, by omega, by omega, by rw [hg]; exact h⟩
    | none =>
      rw [hg] at h
      obtain ⟨y, h1, h2, h3⟩ := ih (f + 1) x h
      exact ⟨y, by omega, by omega, h3⟩
theorem tr_none {α : Type} {g : Nat → Option α} : ∀ (n f : Nat), tr g n f = none → ∀ y, f ≤ y → y < f + n → g y = none := by
  intro n
  induction n with
  | zero => intro f h y h1 h2; omega
  | succ n ih =>
    intro f h y h1 h2
    unfold tr at h
    cases hg : g f with
    | some z => rw [hg] at h; cases h
    | none =>
      rw [hg] at h
      by_cases e : y = f
      · subst e; exact hg
      · exact ih (f + 1) h y (by omega) (by omega)
/-- what a way that was found is -/
def way (sz : Nat → Nat) (room most : Nat) (i m : Nat) (ch : Nat → Nat) : Prop := ∀ j, i ≤ j → j < m → ch j ≤ opn ch j ∧ ch j < most ∧ fil ch sz j (ch j) + sz j ≤ room
theorem fnd_some {sz : Nat → Nat} {room most : Nat} : ∀ (r i : Nat) (ch ch' : Nat → Nat), fnd sz room most r i ch = some ch' → (∀ j, j < i → ch' j = ch j) ∧ way sz room most i (i + r) ch' := by
  intro r
  induction r with
  | zero =>
    intro i ch ch' h
    cases h
    exact ⟨fun _ _ => rfl, fun j h1 h2 => by omega⟩
  | succ r ih =>
    intro i ch ch' h
    unfold fnd at h
    obtain ⟨f, h1, h2, h3⟩ := tr_some _ _ _ h
    by_cases c : fil ch sz i f + sz i ≤ room
    · rw [if_pos c] at h3
      obtain ⟨k1, k2⟩ := ih _ _ _ h3
      have e : ∀ j, j < i → ch' j = ch j := fun j hj => by rw [k1 j (by omega), upd1_n (by omega)]
      refine ⟨e, fun j j1 j2 => ?_⟩
      by_cases ej : j = i
      · subst ej
        have e2 : ch' j = f := by rw [k1 j (by omega), upd1_s]
        rw [e2, opn_c e, fil_c e]
        split at h2 <;> exact ⟨by omega, by omega, c⟩
      · exact k2 j (by omega) (by omega)
    · rw [if_neg c] at h3; cases h3
/-- a way that is there is found -/
theorem fnd_none {sz : Nat → Nat} {room most : Nat} : ∀ (r i : Nat) (ch wy : Nat → Nat), fnd sz room most r i ch = none → (∀ j, j < i → wy j = ch j) → way sz room most i (i + r) wy → False := by
  intro r
  induction r with
  | zero => intro i ch wy h; cases h
  | succ r ih =>
    intro i ch wy h hw hv
    unfold fnd at h
    obtain ⟨v1, v2, v3⟩ := hv i (by omega) (by omega)
    rw [opn_c hw] at v1
    rw [fil_c hw] at v3
    have h2 := tr_none _ _ h (wy i) (by omega) (by split <;> omega)
    rw [if_pos v3] at h2
    refine ih _ _ wy h2 (fun j hj => ?_) (fun j j1 j2 => hv j (by omega) (by omega))
    by_cases e : j = i
    · subst e; rw [upd1_s]
    · rw [upd1_n e]; exact hw j (by omega)
theorem way_tgt {sz : Nat → Nat} {room most m : Nat} {ch : Nat → Nat} (h : way sz room most 0 m ch) : tgt ch m := fun j hj => (h j (by omega) hj).1
theorem way_opn {sz : Nat → Nat} {room most m : Nat} {ch : Nat → Nat} (h : way sz room most 0 m ch) : opn ch m ≤ most := by
  have : ∀ i, i ≤ m → opn ch i ≤ most := by
    intro i
    induction i with
    | zero => intro _; exact Nat.zero_le _
    | succ i ih =>
      intro hi
      have h1 := (h i (by omega) (by omega)).2.1
      have h2 := ih (by omega)
      show (if opn ch i < ch i + 1 then ch i + 1 else opn ch i) ≤ most
      split <;> omega
  exact this m (Nat.le_refl _)
/-- where fewer frames don't do, all are opened -/
theorem way_all {sz : Nat → Nat} {room most m : Nat} {ch : Nat → Nat} (hm : 0 < m) (h : way sz room most 0 m ch) (hn : ∀ x, 1 ≤ x → x < most → fnd sz room x m 0 (fun _ => 0) = none) : opn ch m = most := by
  have h1 := way_opn h
  apply Nat.le_antisymm h1
  apply Nat.le_of_not_lt
  intro hc
  have h0 := opn_lt (ch := ch) hm
  refine fnd_none m 0 (fun _ => 0) ch (hn (opn ch m) (by omega) hc) (fun j hj => by omega) ?_
  intro j j1 j2
  obtain ⟨v1, v2, v3⟩ := h j j1 (by omega)
  exact ⟨v1, opn_lt (by omega), v3⟩
/-- each group in a frame of its own is a way -/
theorem way_own {sz : Nat → Nat} {room m : Nat} (h : ∀ j, j < m → sz j ≤ room) : way sz room m 0 m (fun x => x) := by
  have e : ∀ i, opn (fun x => x) i = i := by
    intro i
    induction i with
    | zero => rfl
    | succ i ih =>
      show (if opn (fun x => x) i < i + 1 then i + 1 else opn (fun x => x) i) = i + 1
      rw [ih, if_pos (by omega)]
  intro j _ hj
  refine ⟨by rw [e]; exact Nat.le_refl _, hj, ?_⟩
  have e2 : fil (fun x => x) sz j j = 0 := fil_0 (by rw [e]; exact Nat.le_refl _)
  show fil (fun x => x) sz j j + sz j ≤ room
  rw [e2]
  have := h j hj
  omega
