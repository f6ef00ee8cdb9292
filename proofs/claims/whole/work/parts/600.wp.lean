/-! THE NUMBERS ALONE: what a decompiled method comes to (wq o Q: o answers, and its answer is as Q says) -/
def wq {β : Type} (o : Option β) (Q : β → Prop) : Prop := ∃ b, o = some b ∧ Q b
theorem wq_some {β : Type} {b : β} {Q : β → Prop} (h : Q b) : wq (some b) Q := ⟨b, rfl, h⟩
theorem wq_eq {β : Type} {o : Option β} {b : β} {Q : β → Prop} (e : o = some b) (h : Q b) : wq o Q := ⟨b, e, h⟩
theorem wq_mono {β : Type} {o : Option β} {P Q : β → Prop} (h : wq o P) (hi : ∀ b, P b → Q b) : wq o Q := by
  obtain ⟨b, e, hb⟩ := h
  exact ⟨b, e, hi b hb⟩
theorem wq_ck {β : Type} {i : Int32} {n : Nat} {x : Option β} {Q : β → Prop} (hi : vp_in i n) (h : wq x Q) : wq (mck i n x) Q := by
  rw [mck_in hi]; exact h
theorem wq_nz {β : Type} {i : Int32} {x : Option β} {Q : β → Prop} (hi : ¬ i = 0) (h : wq x Q) : wq (mnz i x) Q := by
  unfold mnz; rw [if_neg hi]; exact h
theorem wq_nzL {β : Type} {i : Int64} {x : Option β} {Q : β → Prop} (hi : ¬ i = 0) (h : wq x Q) : wq (mnzL i x) Q := by
  unfold mnzL; rw [if_neg hi]; exact h
theorem wq_zz {β : Type} {i : Int32} {x : Option β} {Q : β → Prop} (hi : i = 0 ∨ i = 1) (h : wq x Q) : wq (mzz i x) Q := by
  unfold mzz; rw [if_pos hi]; exact h
theorem wq_bb {β : Type} {i : Int32} {x : Option β} {Q : β → Prop} (hi : i.toInt8.toInt32 = i) (h : wq x Q) : wq (mbb i x) Q := by
  unfold mbb; rw [if_pos hi]; exact h
theorem wq_let {α β : Type} {v : α} {b : α → Option β} {Q : β → Prop} (h : ∀ x, x = v → wq (b x) Q) : wq (mlet v b) Q := h v rfl
theorem wq_lt {α β : Type} {v : α} {b : α → Option β} {Q : β → Prop} (h : wq (b v) Q) : wq (mlet v b) Q := h
theorem wq_b3 {α β : Type} {o : Option (α × mwM × mwL)} {b : α → mwM → mwL → Option β} {P : α × mwM × mwL → Prop} {Q : β → Prop} (hc : wq o P) (h : ∀ r M L, P (r, M, L) → wq (b r M L) Q) : wq (mb3 o b) Q := by
  obtain ⟨⟨r, M, L⟩, e, hp⟩ := hc
  obtain ⟨x, e2, hq⟩ := h r M L hp
  exact ⟨x, by rw [e]; exact e2, hq⟩
theorem wq_b2 {β : Type} {o : Option (mwM × mwL)} {b : mwM → mwL → Option β} {P : mwM × mwL → Prop} {Q : β → Prop} (hc : wq o P) (h : ∀ M L, P (M, L) → wq (b M L) Q) : wq (mb2 o b) Q := by
  obtain ⟨⟨M, L⟩, e, hp⟩ := hc
  obtain ⟨x, e2, hq⟩ := h M L hp
  exact ⟨x, by rw [e]; exact e2, hq⟩
theorem wq_b3e {α β : Type} {o : Option (α × mwM × mwL)} {b : α → mwM → mwL → Option β} {r : α} {M : mwM} {L : mwL} {Q : β → Prop} (e : o = some (r, M, L)) (h : wq (b r M L) Q) : wq (mb3 o b) Q := by
  rw [e]; exact h
theorem wq_b2e {β : Type} {o : Option (mwM × mwL)} {b : mwM → mwL → Option β} {M : mwM} {L : mwL} {Q : β → Prop} (e : o = some (M, L)) (h : wq (b M L) Q) : wq (mb2 o b) Q := by
  rw [e]; exact h
theorem wq_if {c : Prop} [Decidable c] {β : Type} {a b : Option β} {Q : β → Prop} (h1 : c → wq a Q) (h2 : ¬ c → wq b Q) : wq (if c then a else b) Q := by
  by_cases h : c
  · rw [if_pos h]; exact h1 h
  · rw [if_neg h]; exact h2 h
theorem wq_t {c : Prop} [Decidable c] {β : Type} {a b : Option β} {Q : β → Prop} (h : c) (h1 : wq a Q) : wq (if c then a else b) Q := by rw [if_pos h]; exact h1
theorem wq_f {c : Prop} [Decidable c] {β : Type} {a b : Option β} {Q : β → Prop} (h : ¬ c) (h1 : wq b Q) : wq (if c then a else b) Q := by rw [if_neg h]; exact h1
/-- a loop: what holds at each beginning, and what grows less -/
theorem wq_loop {σ β : Type} {body : (σ → Option β) → σ → Option β} {Q : β → Prop} (P : σ → Prop) (μ : σ → Nat) (h : ∀ (s : σ) (r : σ → Option β), P s → (∀ s', P s' → μ s' < μ s → wq (r s') Q) → wq (body r s) Q) : ∀ (f : Nat) (s : σ), μ s < f → P s → wq (mloop body f s) Q := by
  intro f
  induction f with
  | zero => intro s hs; omega
  | succ f ih =>
    intro s hs hP
    exact h s (mloop body f) hP (fun s' hP' hm => ih s' (by omega) hP')
theorem mloop_S {σ β : Type} {body : (σ → Option β) → σ → Option β} {f : Nat} {s : σ} : mloop body (f + 1) s = body (mloop body f) s := rfl
/-! small numbers -/
abbrev nn (x : Int32) : Nat := x.toNatClampNeg
def sI (k : Nat) : Int32 := Int32.ofNat k
theorem sI_toInt {k : Nat} (h : k < 2000000000) : (sI k).toInt = k := Int32.toInt_ofNat_of_lt (by omega)
theorem sI_nn {k : Nat} (h : k < 2000000000) : (sI k).toNatClampNeg = k := by
  have h2 := sI_toInt h
  simp [Int32.toNatClampNeg, h2]
theorem sI_lt {a b : Nat} (ha : a < 2000000000) (hb : b < 2000000000) : (sI a < sI b) ↔ a < b := by
  rw [Int32.lt_iff_toInt_lt, sI_toInt ha, sI_toInt hb]; omega
theorem sI_le {a b : Nat} (ha : a < 2000000000) (hb : b < 2000000000) : (sI a ≤ sI b) ↔ a ≤ b := by
  rw [Int32.le_iff_toInt_le, sI_toInt ha, sI_toInt hb]; omega
theorem sI_eq {a b : Nat} (ha : a < 2000000000) (hb : b < 2000000000) : (sI a = sI b) ↔ a = b := by
  constructor
  · intro h
    have := congrArg Int32.toInt h
    rw [sI_toInt ha, sI_toInt hb] at this
    omega
  · intro h; rw [h]
theorem sI_in {k n : Nat} (h : k < n) (hk : k < 2000000000) : vp_in (sI k) n := by
  intro q
  rcases q with q | q
  · have := Int32.lt_iff_toInt_lt.mp q
    rw [sI_toInt hk] at this
    have h0 : (0 : Int32).toInt = 0 := rfl
    omega
  · rw [sI_nn hk] at q; omega
theorem sI_add {a b : Nat} : sI a + sI b = sI (a + b) := by simp [sI, Int32.ofNat_add]
theorem sI_1 {a : Nat} : sI a + 1 = sI (a + 1) := by simp [sI, Int32.ofNat_add]
theorem nn_int {x : Int32} (h : 0 ≤ x.toInt) : (x.toNatClampNeg : Int) = x.toInt := Int.toNat_of_nonneg h
/-- a number of which is known that it is small -/
theorem sI_of {x : Int32} (h : 0 ≤ x.toInt) : x = sI (nn x) := by
  apply Int32.toInt_inj.mp
  have h1 : (nn x : Int) = x.toInt := nn_int h
  have h2 := Int32.toInt_lt x
  unfold sI
  rw [Int32.toInt_ofNat_of_lt (by omega), h1]
theorem in_nn {x : Int32} {n : Nat} (h : vp_in x n) : 0 ≤ x.toInt ∧ x.toInt < n ∧ nn x < n ∧ (nn x : Int) = x.toInt := by
  have h0 : (0 : Int32).toInt = 0 := rfl
  have h1 : ¬ x < 0 := fun q => h (Or.inl q)
  have h2 : ¬ n ≤ x.toNatClampNeg := fun q => h (Or.inr q)
  rw [Int32.lt_iff_toInt_lt] at h1
  have h3 : (nn x : Int) = x.toInt := nn_int (by omega)
  have h4 : nn x < n := Nat.not_le.mp h2
  omega
theorem in_of {x : Int32} {n : Nat} (h0 : 0 ≤ x.toInt) (h1 : x.toInt < n) : vp_in x n := by
  intro q
  have h3 : (x.toNatClampNeg : Int) = x.toInt := nn_int h0
  have hz : (0 : Int32).toInt = 0 := rfl
  rcases q with q | q
  · have := Int32.lt_iff_toInt_lt.mp q
    omega
  · omega
theorem sI_ltl {a b : Nat} (ha : a < 2000000000) (hb : (OfNat.ofNat b : Nat) < 2000000000) : (sI a < (no_index (OfNat.ofNat b) : Int32)) ↔ a < (OfNat.ofNat b : Nat) := sI_lt ha hb
theorem sI_llt {a b : Nat} (ha : (OfNat.ofNat a : Nat) < 2000000000) (hb : b < 2000000000) : ((no_index (OfNat.ofNat a) : Int32) < sI b) ↔ (OfNat.ofNat a : Nat) < b := sI_lt ha hb
theorem sI_lel {a b : Nat} (ha : a < 2000000000) (hb : (OfNat.ofNat b : Nat) < 2000000000) : (sI a ≤ (no_index (OfNat.ofNat b) : Int32)) ↔ a ≤ (OfNat.ofNat b : Nat) := sI_le ha hb
theorem sI_lle {a b : Nat} (ha : (OfNat.ofNat a : Nat) < 2000000000) (hb : b < 2000000000) : ((no_index (OfNat.ofNat a) : Int32) ≤ sI b) ↔ (OfNat.ofNat a : Nat) ≤ b := sI_le ha hb
theorem sI_eql {a b : Nat} (ha : a < 2000000000) (hb : (OfNat.ofNat b : Nat) < 2000000000) : (sI a = (no_index (OfNat.ofNat b) : Int32)) ↔ a = (OfNat.ofNat b : Nat) := sI_eq ha hb
theorem sI_mul {a b : Nat} : sI a * sI b = sI (a * b) := by simp [sI, Int32.ofNat_mul]
theorem sI_lml {a b : Nat} : (no_index (OfNat.ofNat a) : Int32) * sI b = sI ((OfNat.ofNat a : Nat) * b) := sI_mul
theorem sI_adl {a b : Nat} : sI a + (no_index (OfNat.ofNat b) : Int32) = sI (a + (OfNat.ofNat b : Nat)) := sI_add
theorem sI_lad {a b : Nat} : (no_index (OfNat.ofNat a) : Int32) + sI b = sI ((OfNat.ofNat a : Nat) + b) := sI_add
theorem mck_s {β : Type} {i n : Nat} {x : Option β} (h : i < n) (hi : i < 2000000000) : mck (sI i) n x = x := mck_in (sI_in h hi)
theorem nn_s {k : Nat} (h : k < 2000000000) : nn (sI k) = k := sI_nn h
/-- a loop that counts upwards -/
theorem wq_for {σ α β : Type} {body : (σ → Option β) → σ → Option β} {Q : β → Prop} (st : Nat → α → σ) (P : Nat → α → Prop) (n : Nat) (hs : ∀ (i : Nat) (a : α) (r : σ → Option β), i < n → P i a → (∀ a', P (i + 1) a' → wq (r (st (i + 1) a')) Q) → wq (body r (st i a)) Q) (he : ∀ (a : α) (r : σ → Option β), P n a → wq (body r (st n a)) Q) : ∀ (m i : Nat) (a : α) (f : Nat), i + m = n → m < f → P i a → wq (mloop body f (st i a)) Q := by
  intro m
  induction m with
  | zero =>
    intro i a f hi hf hP
    obtain ⟨g, rfl⟩ : ∃ g, f = g + 1 := ⟨f - 1, by omega⟩
    have : i = n := by omega
    subst this
    rw [mloop_S]
    exact he a _ hP
  | succ m ih =>
    intro i a f hi hf hP
    obtain ⟨g, rfl⟩ : ∃ g, f = g + 1 := ⟨f - 1, by omega⟩
    rw [mloop_S]
    exact hs i a _ (by omega) hP (fun a' ha' => ih (i + 1) a' g (by omega) (by omega) ha')
/-- a loop that reads alone -/
theorem lp_it {σ α β : Type} {body : (σ → Option β) → σ → Option β} (st : Nat → α → σ) (g : Nat → α → α) (n : Nat) (P : Nat → α → Prop) (hs : ∀ (i : Nat) (a : α) (r : σ → Option β), i < n → P i a → body r (st i a) = r (st (i + 1) (g i a)) ∧ P (i + 1) (g i a)) : ∀ (m i : Nat) (a : α) (f : Nat), i + m = n → m < f → P i a → ∃ f' a', mloop body f (st i a) = body (mloop body f') (st n a') ∧ P n a' := by
  intro m
  induction m with
  | zero =>
    intro i a f hi hf hP
    obtain ⟨g, rfl⟩ : ∃ g, f = g + 1 := ⟨f - 1, by omega⟩
    have : i = n := by omega
    subst this
    exact ⟨g, a, rfl, hP⟩
  | succ m ih =>
    intro i a f hi hf hP
    obtain ⟨e, rfl⟩ : ∃ e, f = e + 1 := ⟨f - 1, by omega⟩
    obtain ⟨h1, h2⟩ := hs i a (mloop body e) (by omega) hP
    obtain ⟨f', a', h3, h4⟩ := ih (i + 1) (g i a) e (by omega) (by omega) h2
    exact ⟨f', a', by rw [mloop_S, h1, h3], h4⟩
