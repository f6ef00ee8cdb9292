/-! THE NUMBERS ALONE: what a decompiled method comes to (wq o Q: o answers, and its answer is as Q says) -/
def wq {β : Type} (o : Option β) (Q : β → Prop) : Prop := ∃ b, o = some b ∧ Q b
theorem wq_some {β : Type} {b : β} {Q : β → Prop} (h : Q b) : wq (some b) Q := ⟨b, rfl, h⟩
theorem wq_eq {β : Type} {o : Option β} {b : β} {Q : β → Prop} (e : o = some b) (h : Q b) : wq o Q := ⟨b, e, h⟩
theorem wq_mono {β : Type} {o : Option β} {P Q : β → Prop} (h : wq o P) (hi : ∀ b, P b → Q b) : wq o Q := by
  obtain ⟨b, e, hb⟩ := h
  exact ⟨b, e, hi b hb⟩
theorem wq_ck {β : Type} {i : Int32} {n : Nat} {x : Option β} {Q : β → Prop} (hi : vp_in i n) (h : wq x Q) : wq (mck i n x) Q := by
  rw [mck_in hi]; exact h
theorem wq_nz {β : Type} {i : Int32} {x : Option β} {Q : β → Prop} (hi : ¬ i = 0) (h : wq x Q) : wq (mnz i x) Q := by
  unfold mnz; rw [if_neg hi]; exact h
theorem wq_nzL {β : Type} {i : Int64} {x : Option β} {Q : β → Prop} (hi : ¬ i = 0) (h : wq x Q) : wq (mnzL i x) Q := by
  unfold mnzL; rw [if_neg hi]; exact h
theorem wq_zz {β : Type} {i : Int32} {x : Option β} {Q : β → Prop} (hi : i = 0 ∨ i = 1) (h : wq x Q) : wq (mzz i x) Q := by
  unfold mzz; rw [if_pos hi]; exact h
theorem wq_bb {β : Type} {i : Int32} {x : Option β} {Q : β → Prop} (hi : i.toInt8.toInt32 = i) (h : wq x Q) : wq (mbb i x) Q := by
  unfold mbb; rw [if_pos hi]; exact h
theorem wq_let {α β : Type} {v : α} {b : α → Option β} {Q : β → Prop} (h : ∀ x, x = v → wq (b x) Q) : wq (mlet v b) Q := h v rfl
theorem wq_lt {α β : Type} {v : α} {b : α → Option β} {Q : β → Prop} (h : wq (b v) Q) : wq (mlet v b) Q := h
theorem wq_b3 {α β : Type} {o : Option (α × mwM × mwL)} {b : α → mwM → mwL → Option β} {P : α × mwM × mwL → Prop} {Q : β → Prop} (hc : wq o P) (h : ∀ r M L, P (r, M, L) → wq (b r M L) Q) : wq (mb3 o b) Q := by
  obtain ⟨⟨r, M, L⟩, e, hp⟩ := hc
  obtain ⟨x, e2, hq⟩ := h r M L hp
  exact ⟨x, by rw [e]; exact e2, hq⟩
theorem wq_b2 {β : Type} {o : Option (mwM × mwL)} {b : mwM → mwL → Option β} {P : mwM × mwL → Prop} {Q : β → Prop} (hc : wq o P) (h : ∀ M L, P (M, L) → wq (b M L) Q) : wq (mb2 o b) Q := by
  obtain ⟨⟨M, L⟩, e, hp⟩ := hc
  obtain ⟨x, e2, hq⟩ := h M L hp
  exact ⟨x, by rw [e]; exact e2, hq⟩
theorem wq_b3e {α β : Type} {o : Option (α × mwM × mwL)} {b : α → mwM → mwL → Option β} {r : α} {M : mwM} {L : mwL} {Q : β → Prop} (e : o = some (r, M, L)) (h : wq (b r M L) Q) : wq (mb3 o b) Q := by
  rw [e]; exact h
theorem wq_b2e {β : Type} {o : Option (mwM × mwL)} {b : mwM → mwL → Option β} {M : mwM} {L : mwL} {Q : β → Prop} (e : o = some (M, L)) (h : wq (b M L) Q) : wq (mb2 o b) Q := by
  rw [e]; exact h
theorem wq_if {c : Prop} [Decidable c] {β : Type} {a b : Option β} {Q : β → Prop} (h1 : c → wq a Q) (h2 : ¬ c → wq b Q) : wq (if c then a else b) Q := by
  by_cases h : c
  · rw [if_pos h]; exact h1 h
  · rw [if_neg h]; exact h2 h
theorem wq_t {c : Prop} [Decidable c] {β : Type} {a b : Option β} {Q : β → Prop} (h : c) (h1 : wq a Q) : wq (if c then a else b) Q := by rw [if_pos h]; exact h1
theorem wq_f {c : Prop} [Decidable c] {β : Type} {a b : Option β} {Q : β → Prop} (h : ¬ c) (h1 : wq b Q) : wq (if c then a else b) Q := by rw [if_neg h]; exact h1
/-- a loop: what holds at each beginning, and what grows less -/
theorem wq_loop {σ β : Type} {body : (σ → Option β) → σ → Option β} {Q : β → Prop} (P : σ → Prop) (μ : σ → Nat) (h : ∀ (s : σ) (r : σ → Option β), P s → (∀ s', P s' → μ s' < μ s → wq (r s') Q) → wq (body r s) Q) : ∀ (f : Nat) (s : σ), μ s < f → P s → wq (mloop body f s) Q := by
  intro f
  induction f with
  | zero => intro s hs; omega
  | succ f ih =>
    intro s hs hP
    exact h s (mloop body f) hP (fun s' hP' hm => ih s' (by omega) hP')
theorem mloop_S {σ β : Type} {body : (σ → Option β) → σ → Option β} {f : Nat} {s : σ} : mloop body (f + 1) s = body (mloop body f) s := rfl
/-! small numbers -/
abbrev nn (x : Int32) : Nat := x.toNatClampNeg
def sI (k : Nat) : Int32 := Int32.ofNat k
theorem sI_toInt {k : Nat} (h : k < 2000000000) : (sI k).toInt = k := Int32.toInt_ofNat_of_lt (by omega)
theorem sI_nn {k : Nat} (h : k < 2000000000) : (sI k).toNatClampNeg = k := by
  have h2 := sI_toInt h
  simp [Int32.toNatClampNeg, h2]
theorem sI_lt {a b : Nat} (ha : a < 2000000000) (hb : b < 2000000000) : (sI a < sI b) ↔ a < b := by
  rw [Int32.lt_iff_toInt_lt, sI_toInt ha, sI_toInt hb]; omega
theorem sI_le {a b : Nat} (ha : a < 2000000000) (hb : b < 2000000000) : (sI a ≤ sI b) ↔ a ≤ b := by
  rw [Int32.le_iff_toInt_le, sI_toInt ha, sI_toInt hb]; omega
theorem sI_eq {a b : Nat} (ha : a < 2000000000) (hb : b < 2000000000) : (sI a = sI b) ↔ a = b := by
  constructor
  · intro h
    have := congrArg Int32.toInt h
    rw [sI_toInt ha, sI_toInt hb] at this
    omega
  · intro h; rw [h]
theorem sI_in {k n : Nat} (h : k < n) (hk : k < 2000000000) : vp_in (sI k) n := by
  intro q
  rcases q with q | q
  · have := Int32.lt_iff_toInt_lt.mp q
    rw [sI_toInt hk] at this
    have h0 : (0 : Int32).toInt = 0 := rfl
    omega
  · rw [sI_nn hk] at q; omega
theorem sI_add {a b : Nat} : sI a + sI b = sI (a + b) := by simp [sI, Int32.ofNat_add]
theorem sI_1 {a : Nat} : sI a + 1 = sI (a + 1) := by simp [sI, Int32.ofNat_add]
theorem nn_int {x : Int32} (h : 0 ≤ x.toInt) : (x.toNatClampNeg : Int) = x.toInt := Int.toNat_of_nonneg h
/-- a number of which is known that it is small -/
theorem sI_of {x : Int32} (h : 0 ≤ x.toInt) : x = sI (nn x) := by
  apply Int32.toInt_inj.mp
  have h1 : (nn x : Int) = x.toInt := nn_int h
  have h2 := Int32.toInt_lt x
  unfold sI
  rw [Int32.toInt_ofNat_of_lt (by omega), h1]
theorem in_nn {x : Int32} {n : Nat} (h : vp_in x n) : 0 ≤ x.toInt ∧ x.toInt < n ∧ nn x < n ∧ (nn x : Int) = x.toInt := by
  have h0 : (0 : Int32).toInt = 0 := rfl
  have h1 : ¬ x < 0 := fun q => h (Or.inl q)
  have h2 : ¬ n ≤ x.toNatClampNeg := fun q => h (Or.inr q)
  rw [Int32.lt_iff_toInt_lt] at h1
  have h3 : (nn x : Int) = x.toInt := nn_int (by omega)
  have h4 : nn x < n := Nat.not_le.mp h2
  omega
theorem in_of {x : Int32} {n : Nat} (h0 : 0 ≤ x.toInt) (h1 : x.toInt < n) : vp_in x n := by
  intro q
  have h3 : (x.toNatClampNeg : Int) = x.toInt := nn_int h0
  have hz : (0 : Int32).toInt = 0 := rfl
  rcases q with q | q
  · have := Int32.lt_iff_toInt_lt.mp q
    omega
  · omega
theorem sI_ltl {a b : Nat} (ha : a < 2000000000) (hb : (OfNat.ofNat b : Nat) < 2000000000) : (sI a < (no_index (OfNat.ofNat b) : Int32)) ↔ a < (OfNat.ofNat b : Nat) := sI_lt ha hb
theorem sI_llt {a b : Nat} (ha : (OfNat.ofNat a : Nat) < 2000000000) (hb : b < 2000000000) : ((no_index (OfNat.ofNat a) : Int32) < sI b) ↔ (OfNat.ofNat a : Nat) < b := sI_lt ha hb
theorem sI_lel {a b : Nat} (ha : a < 2000000000) (hb : (OfNat.ofNat b : Nat) < 2000000000) : (sI a ≤ (no_index (OfNat.ofNat b) : Int32)) ↔ a ≤ (OfNat.ofNat b : Nat) := sI_le ha hb
theorem sI_lle {a b : Nat} (ha : (OfNat.ofNat a : Nat) < 2000000000) (hb : b < 2000000000) : ((no_index (OfNat.ofNat a) : Int32) ≤ sI b) ↔ (OfNat.ofNat a : Nat) ≤ b := sI_le ha hb
theorem sI_eql {a b : Nat} (ha : a < 2000000000) (hb : (OfNat.ofNat b : Nat) < 2000000000) : (sI a = (no_index (OfNat.ofNat b) : Int32)) ↔ a = (OfNat.ofNat b : Nat) := sI_eq ha hb
theorem sI_mul {a b : Nat} : sI a * sI b = sI (a * b) := by simp [sI, Int32.ofNat_mul]
theorem sI_lml {a b : Nat} : (no_index (OfNat.ofNat a) : Int32) * sI b = sI ((OfNat.ofNat a : Nat) * b) := sI_mul
theorem sI_adl {a b : Nat} : sI a + (no_index (OfNat.ofNat b) : Int32) = sI (a + (OfNat.ofNat b : Nat)) := sI_add
theorem sI_lad {a b : Nat} : (no_index (OfNat.ofNat a) : Int32) + sI b = sI ((OfNat.ofNat a : Nat) + b) := sI_add
theorem mck_s {β : Type} {i n : Nat} {x : Option β} (h : i < n) (hi : i < 2000000000) : mck (sI i) n x = x := mck_in (sI_in h hi)
theorem nn_s {k : Nat} (h : k < 2000000000) : nn (sI k) = k := sI_nn h
/-- a loop that counts upwards -/
theorem wq_for {σ α β : Type} {body : (σ → Option β) → σ → Option β} {Q : β → Prop} (st : Nat → α → σ) (P : Nat → α → Prop) (n : Nat) (hs : ∀ (i : Nat) (a : α) (r : σ → Option β), i < n → P i a → (∀ a', P (i + 1) a' → wq (r (st (i + 1) a')) Q) → wq (body r (st i a)) Q) (he : ∀ (a : α) (r : σ → Option β), P n a → wq (body r (st n a)) Q) : ∀ (m i : Nat) (a : α) (f : Nat), i + m = n → m < f → P i a → wq (mloop body f (st i a)) Q := by
  intro m
  induction m with
  | zero =>
    intro i a f hi hf hP
    obtain ⟨g, rfl⟩ : ∃ g, f = g + 1 := ⟨f - 1, by omega⟩
    have : i = n := by omega
    subst this
    rw [mloop_S]
    exact he a _ hP
  | succ m ih =>
    intro i a f hi hf hP
    obtain ⟨g, rfl⟩ : ∃ g, f = g + 1 := ⟨f - 1, by omega⟩
    rw [mloop_S]
    exact hs i a _ (by omega) hP (fun a' ha' => ih (i + 1) a' g (by omega) (by omega) ha')
/-- a loop that reads alone -/
theorem lp_it {σ α β : Type} {body : (σ → Option β) → σ → Option β} (st : Nat → α → σ) (g : Nat → α → α) (n : Nat) (P : Nat → α → Prop) (hs : ∀ (i : Nat) (a : α) (r : σ → Option β), i < n → P i a → body r (st i a) = r (st (i + 1) (g i a)) ∧ P (i + 1) (g i a)) : ∀ (m i : Nat) (a : α) (f : Nat), i + m = n → m < f → P i a → ∃ f' a', mloop body f (st i a) = body (mloop body f') (st n a') ∧ P n a' := by
  intro m
  induction m with
  | zero =>
    intro i a f hi hf hP
    obtain ⟨g, rfl⟩ : ∃ g, f = g + 1 := ⟨f - 1, by omega⟩
    have : i = n := by omega
    subst this
    exact ⟨g, a, rfl, hP⟩
  | succ m ih =>
    intro i a f hi hf hP
    obtain ⟨e, rfl⟩ : ∃ e, f = e + 1 := ⟨f - 1, by omega⟩
    obtain ⟨h1, h2⟩ := hs i a (mloop body e) (by omega) hP
    obtain ⟨f', a', h3, h4⟩ := ih (i + 1) (g i a) e (by omega) (by omega) h2
    exact ⟨f', a', by rw [mloop_S, h1, h3], h4⟩
/-! TEXT, CUT, PLACE, SAY: what both sides keep of them -/
theorem and_255 (x : Int32) : 0 ≤ (x &&& 255).toInt ∧ (x &&& 255).toInt ≤ 255 := by
  have h : (x &&& 255).toBitVec.toNat ≤ 255 := by
    simp only [Int32.toBitVec_and, BitVec.toNat_and]
    exact Nat.and_le_right
  have h2 : (x &&& 255).toInt = ((x &&& 255).toBitVec.toNat : Int) := by
    show (x &&& 255).toBitVec.toInt = _
    rw [BitVec.toInt_eq_toNat_of_lt (by omega)]
  omega
theorem and_255n (x : Int32) : ∃ n, n < 256 ∧ x &&& 255 = sI n := by
  have h := and_255 x
  refine ⟨nn (x &&& 255), ?_, sI_of h.1⟩
  have : (nn (x &&& 255) : Int) = (x &&& 255).toInt := nn_int h.1
  omega
theorem char_256 : ∀ n, n < 256 → vp_nar .char (((sI n).toUInt32 % 65536).toInt32) = sI n := by decide +kernel
/-- the letter of a word at a shift -/
def ltr (a s : Int32) : Int32 := ((a.toUInt32 >>> (s.toUInt32 &&& Int32.toUInt32 31)).toInt32) &&& 255
theorem ltr_n (a s : Int32) : ∃ n, n < 256 ∧ ltr a s = sI n := and_255n _
theorem ltr_char (a s : Int32) : vp_nar .char (((ltr a s).toUInt32 % 65536).toInt32) = ltr a s := by
  obtain ⟨n, hn, e⟩ := ltr_n a s
  rw [e]
  exact char_256 n hn
def l4 (a : Int32) : List Int32 := [ltr a 24, ltr a 16, ltr a 8, ltr a 0]
def nz (ls : List Int32) : Nat := (ls.filter (fun x => x ≠ 0)).length
theorem nz_app (a b : List Int32) : nz (a ++ b) = nz a + nz b := by simp [nz]
theorem nz_le (a : List Int32) : nz a ≤ a.length := List.length_filter_le _ _
theorem nz_c0 {x : Int32} {ls : List Int32} (h : x = 0) : nz (x :: ls) = nz ls := by simp [nz, h]
theorem nz_c1 {x : Int32} {ls : List Int32} (h : ¬ x = 0) : nz (x :: ls) = nz ls + 1 := by simp [nz, h]
/-- letters put behind each other -/
def pu1 (r c f : Nat) (M : mwM) (x : Int32) : mwM := if x = 0 then M else mset (mset M r (nn (M c f)) x) c f (M c f + 1)
def pu (r c f : Nat) (M : mwM) : List Int32 → mwM
  | [] => M
  | x :: ls => pu r c f (pu1 r c f M x) ls
theorem pu_app (r c f : Nat) (M : mwM) (a b : List Int32) : pu r c f M (a ++ b) = pu r c f (pu r c f M a) b := by
  induction a generalizing M with
  | nil => rfl
  | cons x a ih => exact ih _
theorem pu1_c {r c f n : Nat} {M : mwM} {x : Int32} (hc : M c f = sI n) : pu1 r c f M x c f = sI (n + nz [x]) := by
  unfold pu1
  by_cases h : x = 0
  · rw [if_pos h, nz_c0 h, hc]; rfl
  · rw [if_neg h, nz_c1 h, mset_s, hc, sI_1]; rfl
theorem pu1_o {r c f a j : Nat} {M : mwM} {x : Int32} (h1 : a ≠ r) (h2 : ¬ (a = c ∧ j = f)) : pu1 r c f M x a j = M a j := by
  unfold pu1
  by_cases h : x = 0
  · rw [if_pos h]
  · rw [if_neg h, mset_n h2, mset_k h1]
theorem pu1_r {r c f n j : Nat} {M : mwM} {x : Int32} (hrc : r ≠ c) (hn : n < 2000000000) (hc : M c f = sI n) (hj : j < n) : pu1 r c f M x r j = M r j := by
  unfold pu1
  by_cases h : x = 0
  · rw [if_pos h]
  · rw [if_neg h, mset_k hrc, hc, mset_j (by rw [nn_s hn]; omega)]
theorem pu1_n {r c f n : Nat} {M : mwM} {x : Int32} (hrc : r ≠ c) (hn : n < 2000000000) (hc : M c f = sI n) (h : ¬ x = 0) : pu1 r c f M x r n = x := by
  unfold pu1
  rw [if_neg h, mset_k hrc, hc, nn_s hn, mset_s]
theorem pu_all {r c f : Nat} (hrc : r ≠ c) (ls : List Int32) : ∀ (M : mwM) (n : Nat), M c f = sI n → n + nz ls < 2000000000 → pu r c f M ls c f = sI (n + nz ls) ∧ (∀ a j, a ≠ r → ¬ (a = c ∧ j = f) → pu r c f M ls a j = M a j) ∧ (∀ j, j < n → pu r c f M ls r j = M r j) ∧ (∀ i (hi : i < nz ls), pu r c f M ls r (n + i) = (ls.filter (fun x => x ≠ 0))[i]'hi) := by
  induction ls with
  | nil =>
    intro M n hc _
    refine ⟨by simpa [pu, nz] using hc, fun _ _ _ _ => rfl, fun _ _ => rfl, ?_⟩
    intro i hi
    simp [nz] at hi
  | cons x ls ih =>
    intro M n hc hn
    have hz : nz (x :: ls) = nz [x] + nz ls := nz_app [x] ls
    obtain ⟨h1, h2, h3, h4⟩ := ih (pu1 r c f M x) (n + nz [x]) (pu1_c hc) (by omega)
    refine ⟨?_, ?_, ?_, ?_⟩
    · show pu r c f (pu1 r c f M x) ls c f = _
      rw [h1, hz]; congr 1; omega
    · intro a j ha hj
      exact (h2 a j ha hj).trans (pu1_o ha hj)
    · intro j hj
      exact (h3 j (by omega)).trans (pu1_r hrc (by omega) hc hj)
    · intro i hi
      show pu r c f (pu1 r c f M x) ls r (n + i) = _
      by_cases h : x = 0
      · have e : nz [x] = 0 := by simp [nz, h]
        rw [e] at h4 h3 hz
        have := h4 i (by omega)
        rw [Nat.add_zero] at this
        rw [this]
        simp [h]
      · have e : nz [x] = 1 := by simp [nz, h]
        rw [e] at h4 h3 hz
        cases i with
        | zero =>
          have := h3 n (by omega)
          rw [Nat.add_zero, this, pu1_n hrc (by omega) hc h]
          simp [h]
        | succ i =>
          have := h4 i (by omega)
          rw [show n + (i + 1) = n + 1 + i by omega, this]
          simp [h]
/-- the class: four letters -/
theorem ap_step {fu : Nat} {a v : Int32} {r : Int32 × mwM × mwL → Option (mwM × mwL)} {M : mwM} {L : mwL} {n : Nat} (hv : ¬ v < 0) (hM : M 1 4 = sI n) (hn : n + nz [ltr a v] ≤ 6000) : fX8_append_i3 fu a r v M L = r (v + (-8), pu1 2 1 4 M (ltr a v), L) := by
  unfold fX8_append_i3 fX8_append_b50
  simp only [mlet]
  rw [if_neg hv]
  show (if ltr a v = 0 then _ else _) = _
  unfold pu1
  by_cases hx : ltr a v = 0
  · rw [if_pos hx, if_pos hx]
  · rw [if_neg hx, if_neg hx]
    have h1 : nz [ltr a v] = 1 := by rw [nz_c1 hx]; rfl
    have h2 : ¬ (6000 : Int32) ≤ M 1 4 := by
      rw [hM]
      show ¬ sI 6000 ≤ sI n
      rw [sI_le (by omega) (by omega)]
      omega
    rw [if_neg h2, mck_in (by rw [hM]; exact sI_in (by omega) (by omega))]
    show r (v + -8, mset (mset M 2 _ (vp_nar .char (((ltr a v).toUInt32 % 65536).toInt32))) 1 4 _, L) = _
    rw [ltr_char]
    simp [mset, nn]
theorem nz_1 (x : Int32) : nz [x] ≤ 1 := nz_le [x]
theorem nz_l4 (a : Int32) : nz (l4 a) = nz [ltr a 24] + (nz [ltr a 16] + (nz [ltr a 8] + nz [ltr a 0])) := by
  rw [← nz_app, ← nz_app, ← nz_app]; rfl
theorem ap_all {fu : Nat} {a : Int32} {M : mwM} {L : mwL} {n : Nat} (hf : 5 ≤ fu) (hM : M 1 4 = sI n) (hn : n + nz (l4 a) ≤ 6000) : DX8_append fu a M L = some (pu 2 1 4 M (l4 a), L) := by
  obtain ⟨g, rfl⟩ : ∃ g, fu = g + 5 := ⟨fu - 5, by omega⟩
  have e : nz (l4 a) = nz [ltr a 24] + (nz [ltr a 16] + (nz [ltr a 8] + nz [ltr a 0])) := by
    rw [← nz_app, ← nz_app, ← nz_app]; rfl
  have m1 := pu1_c (r := 2) (x := ltr a 24) hM
  have m2 := pu1_c (r := 2) (x := ltr a 16) m1
  have m3 := pu1_c (r := 2) (x := ltr a 8) m2
  unfold DX8_append fX8_append_h3
  rw [mloop_S]
  show fX8_append_i3 (g + 5) a (fX8_append_h3 (g + 5) a (g + 4)) 24 M L = _
  rw [ap_step (n := n) (by decide) hM (by omega)]
  show fX8_append_i3 (g + 5) a (fX8_append_h3 (g + 5) a (g + 3)) 16 _ L = _
  rw [ap_step (by decide) m1 (by omega)]
  show fX8_append_i3 (g + 5) a (fX8_append_h3 (g + 5) a (g + 2)) 8 _ L = _
  rw [ap_step (by decide) m2 (by omega)]
  show fX8_append_i3 (g + 5) a (fX8_append_h3 (g + 5) a (g + 1)) 0 _ L = _
  rw [ap_step (by decide) m3 (by omega)]
  rfl
theorem li_step {fu : Nat} {a v w : Int32} {r : Int32 × Int32 × mwM × mwL → Option (Int32 × mwM × mwL)} {M : mwM} {L : mwL} (hv : ¬ v < 0) : fX11_lettersIn_i5 fu a r w v M L = r (w + sI (nz [ltr a v]), v + (-8), M, L) := by
  unfold fX11_lettersIn_i5 fX11_lettersIn_b25
  simp only [mlet]
  rw [if_neg hv]
  show (if ltr a v = 0 then _ else _) = _
  by_cases hx : ltr a v = 0
  · rw [if_pos hx, nz_c0 hx]; rfl
  · rw [if_neg hx, nz_c1 hx]; rfl
theorem li_end {fu : Nat} {a w : Int32} {r : Int32 × Int32 × mwM × mwL → Option (Int32 × mwM × mwL)} {M : mwM} {L : mwL} : fX11_lettersIn_i5 fu a r w (-8) M L = some (w, M, L) := by
  unfold fX11_lettersIn_i5
  rw [if_pos (by decide)]
theorem li_all {fu : Nat} {a : Int32} {M : mwM} {L : mwL} (hf : 5 ≤ fu) : DX11_lettersIn fu a M L = some (sI (nz (l4 a)), M, L) := by
  obtain ⟨g, rfl⟩ : ∃ g, fu = g + 5 := ⟨fu - 5, by omega⟩
  have e : nz (l4 a) = nz [ltr a 24] + nz [ltr a 16] + nz [ltr a 8] + nz [ltr a 0] := by
    have := nz_l4 a
    omega
  unfold DX11_lettersIn fX11_lettersIn_h5
  rw [mloop_S]
  show fX11_lettersIn_i5 (g + 5) a (fX11_lettersIn_h5 (g + 5) a (g + 4)) 0 24 M L = _
  rw [li_step (by decide), show (24 : Int32) + (-8) = 16 from by decide]
  show fX11_lettersIn_i5 (g + 5) a (fX11_lettersIn_h5 (g + 5) a (g + 3)) (0 + sI (nz [ltr a 24])) 16 M L = _
  rw [li_step (by decide), show (16 : Int32) + (-8) = 8 from by decide]
  show fX11_lettersIn_i5 (g + 5) a (fX11_lettersIn_h5 (g + 5) a (g + 2)) (0 + sI (nz [ltr a 24]) + sI (nz [ltr a 16])) 8 M L = _
  rw [li_step (by decide), show (8 : Int32) + (-8) = 0 from by decide]
  show fX11_lettersIn_i5 (g + 5) a (fX11_lettersIn_h5 (g + 5) a (g + 1)) (0 + sI (nz [ltr a 24]) + sI (nz [ltr a 16]) + sI (nz [ltr a 8])) 0 M L = _
  rw [li_step (by decide), show (0 : Int32) + (-8) = -8 from by decide]
  show fX11_lettersIn_i5 (g + 5) a (fX11_lettersIn_h5 (g + 5) a g) (0 + sI (nz [ltr a 24]) + sI (nz [ltr a 16]) + sI (nz [ltr a 8]) + sI (nz [ltr a 0])) (-8) M L = _
  rw [li_end, e, ← sI_add, ← sI_add, ← sI_add, show (0 : Int32) + sI (nz [ltr a 24]) = sI (nz [ltr a 24]) from Int32.zero_add _]
def l16 (a b c d : Int32) : List Int32 := l4 a ++ (l4 b ++ (l4 c ++ l4 d))
theorem l16_len (a b c d : Int32) : (l16 a b c d).length = 16 := rfl
theorem nz_l16 (a b c d : Int32) : nz (l16 a b c d) = nz (l4 a) + (nz (l4 b) + (nz (l4 c) + nz (l4 d))) := by
  unfold l16
  rw [nz_app, nz_app, nz_app]
/-- the class: text -/
theorem ct_text {fu : Nat} {a b c d : Int32} {M : mwM} {L : mwL} {n : Nat} (hf : 5 ≤ fu) (hM : M 1 4 = sI n) (hn : n ≤ 6000) : DL_text fu a b c d M L = if n + nz (l16 a b c d) ≤ 6000 then some (0, pu 2 1 4 M (l16 a b c d), L) else some (1, M, L) := by
  have z := nz_l16 a b c d
  have za := nz_le (l4 a)
  have zb := nz_le (l4 b)
  have zc := nz_le (l4 c)
  have zd := nz_le (l4 d)
  have k4 : ∀ a, (l4 a).length = 4 := fun _ => rfl
  rw [k4] at za zb zc zd
  unfold DL_text DX11_text
  rw [li_all hf, mb3_s, li_all hf, mb3_s, li_all hf, mb3_s, li_all hf, mb3_s, hM, sI_add, sI_add, sI_add, sI_add]
  have hc : (sI (n + nz (l4 a) + nz (l4 b) + nz (l4 c) + nz (l4 d)) ≤ 6000) ↔ n + nz (l16 a b c d) ≤ 6000 := by
    show (sI _ ≤ sI 6000) ↔ _
    rw [sI_le (by omega) (by omega)]
    omega
  by_cases h : n + nz (l16 a b c d) ≤ 6000
  · rw [if_pos (hc.mpr h), if_pos h]
    have e1 := (pu_all (r := 2) (c := 1) (f := 4) (by decide) (l4 a) M n hM (by omega)).1
    have e2 := (pu_all (r := 2) (c := 1) (f := 4) (by decide) (l4 b) _ _ e1 (by omega)).1
    have e3 := (pu_all (r := 2) (c := 1) (f := 4) (by decide) (l4 c) _ _ e2 (by omega)).1
    rw [ap_all hf hM (by omega), mb2_s, ap_all hf e1 (by omega), mb2_s, ap_all hf e2 (by omega), mb2_s, ap_all hf e3 (by omega), mb2_s]
    unfold l16
    rw [pu_app, pu_app, pu_app]
    rfl
  · rw [if_neg (fun q => h (hc.mp q)), if_neg h]
    rfl
theorem bit_255 : ∀ i, i < 32 → 8 ≤ i → (255#32).getLsbD i = false := by decide
theorem bv_sh (x : BitVec 32) (s : Nat) (hs : s ≤ 24) : (x >>> s) &&& 255#32 = (x.sshiftRight s) &&& 255#32 := by
  apply BitVec.eq_of_getLsbD_eq
  intro i hi
  simp only [BitVec.getLsbD_and, BitVec.getLsbD_ushiftRight, BitVec.getLsbD_sshiftRight]
  by_cases h8 : i < 8
  · have h1 : s + i < 32 := by omega
    have h2 : ¬ 32 ≤ i := by omega
    simp [h1, h2]
  · rw [bit_255 i hi (by omega)]
    simp
theorem sh_0 (x : Int32) : ltr x 0 = (x >>> (0 : Int32)) &&& 255 := by
  apply Int32.toBitVec_inj.mp
  exact bv_sh x.toBitVec 0 (by omega)
theorem sh_8 (x : Int32) : ltr x 8 = (x >>> (8 : Int32)) &&& 255 := by
  apply Int32.toBitVec_inj.mp
  exact bv_sh x.toBitVec 8 (by omega)
theorem sh_16 (x : Int32) : ltr x 16 = (x >>> (16 : Int32)) &&& 255 := by
  apply Int32.toBitVec_inj.mp
  exact bv_sh x.toBitVec 16 (by omega)
theorem sh_24 (x : Int32) : ltr x 24 = (x >>> (24 : Int32)) &&& 255 := by
  apply Int32.toBitVec_inj.mp
  exact bv_sh x.toBitVec 24 (by omega)
theorem mt_char {fu : Nat} {a b c d : Int32} {M : mwM} {L : mwL} {k : Nat} (hk : k < 16) : DX19_character fu a b c d (sI k) M L = some ((l16 a b c d)[k]'hk, M, L) := by
  have h : k = 0 ∨ k = 1 ∨ k = 2 ∨ k = 3 ∨ k = 4 ∨ k = 5 ∨ k = 6 ∨ k = 7 ∨ k = 8 ∨ k = 9 ∨ k = 10 ∨ k = 11 ∨ k = 12 ∨ k = 13 ∨ k = 14 ∨ k = 15 := by omega
  unfold DX19_character fX19_character_b33
  rcases h with rfl | rfl | rfl | rfl | rfl | rfl | rfl | rfl | rfl | rfl | rfl | rfl | rfl | rfl | rfl | rfl
  · exact congrArg (fun z => some (z, M, L)) (sh_24 a).symm
  · exact congrArg (fun z => some (z, M, L)) (sh_16 a).symm
  · exact congrArg (fun z => some (z, M, L)) (sh_8 a).symm
  · exact congrArg (fun z => some (z, M, L)) (sh_0 a).symm
  · exact congrArg (fun z => some (z, M, L)) (sh_24 b).symm
  · exact congrArg (fun z => some (z, M, L)) (sh_16 b).symm
  · exact congrArg (fun z => some (z, M, L)) (sh_8 b).symm
  · exact congrArg (fun z => some (z, M, L)) (sh_0 b).symm
  · exact congrArg (fun z => some (z, M, L)) (sh_24 c).symm
  · exact congrArg (fun z => some (z, M, L)) (sh_16 c).symm
  · exact congrArg (fun z => some (z, M, L)) (sh_8 c).symm
  · exact congrArg (fun z => some (z, M, L)) (sh_0 c).symm
  · exact congrArg (fun z => some (z, M, L)) (sh_24 d).symm
  · exact congrArg (fun z => some (z, M, L)) (sh_16 d).symm
  · exact congrArg (fun z => some (z, M, L)) (sh_8 d).symm
  · exact congrArg (fun z => some (z, M, L)) (sh_0 d).symm
theorem l16_n {a b c d x : Int32} (h : x ∈ l16 a b c d) : ∃ n, n < 256 ∧ x = sI n := by
  simp only [l16, l4, List.cons_append, List.nil_append, List.mem_cons, List.not_mem_nil, or_false] at h
  rcases h with h | h | h | h | h | h | h | h | h | h | h | h | h | h | h | h <;> (rw [h]; exact ltr_n _ _)
theorem mt_w {fu : Nat} {a b c d : Int32} {L : mwL} : ∀ (rest pre : List Int32) (M : mwM) (n f : Nat), pre ++ rest = l16 a b c d → rest.length < f → M 732 0 = 0 → M 732 2 = sI n → n + nz rest ≤ 6000 → fX19_text_h68 fu a b c d f (sI pre.length, M, L) = some (pu 733 732 2 M rest, L) := by
  intro rest
  induction rest with
  | nil =>
    intro pre M n f hp hf _ _ _
    obtain ⟨g, rfl⟩ : ∃ g, f = g + 1 := ⟨f - 1, by simp at hf; omega⟩
    have hl : pre.length = 16 := by rw [← l16_len a b c d, ← hp]; simp
    unfold fX19_text_h68
    rw [mloop_S, hl]
    rfl
  | cons x rest ih =>
    intro pre M n f hp hf h0 h2 hn
    obtain ⟨g, rfl⟩ : ∃ g, f = g + 1 := ⟨f - 1, by simp at hf; omega⟩
    have hl : pre.length < 16 := by rw [← l16_len a b c d, ← hp]; simp
    have hx : (l16 a b c d)[pre.length]'hl = x := by simp [← hp]
    have hz : nz (x :: rest) = nz [x] + nz rest := nz_app [x] rest
    unfold fX19_text_h68
    rw [mloop_S]
    show fX19_text_i68 fu a b c d (fX19_text_h68 fu a b c d g) (sI pre.length) M L = _
    unfold fX19_text_i68 fX19_text_b123
    have hc : ¬ (16 : Int32) ≤ sI pre.length := by
      show ¬ sI 16 ≤ sI _
      rw [sI_le (by omega) (by omega)]
      omega
    rw [if_neg hc, if_pos h0, mt_char hl, mb3_s, hx]
    have ihx := ih (pre ++ [x]) (pu1 733 732 2 M x) (n + nz [x]) g (by simpa using hp) (by simp at hf; omega) (by rw [pu1_o (by decide) (by decide)]; exact h0) (pu1_c h2) (by omega)
    have hk : sI pre.length + 1 = sI (pre ++ [x]).length := by rw [sI_1]; simp
    simp only [mlet]
    rw [hk]
    by_cases hxx : x = 0
    · rw [if_pos hxx]
      have e : pu1 733 732 2 M x = M := by unfold pu1; rw [if_pos hxx]
      rw [e] at ihx
      rw [ihx]
      show _ = some (pu 733 732 2 (pu1 733 732 2 M x) rest, L)
      rw [e]
    · have h1 : nz [x] = 1 := by rw [nz_c1 hxx]; rfl
      rw [if_neg hxx, mck_in (by rw [h2]; exact sI_in (by omega) (by omega))]
      have e : pu1 733 732 2 M x = mset (mset M 733 (M 732 2).toNatClampNeg x) 732 2 (mset M 733 (M 732 2).toNatClampNeg x 732 2 + 1) := by
        unfold pu1
        rw [if_neg hxx, mset_k (a := 732) (by decide)]
      rw [e] at ihx
      rw [ihx]
      show _ = some (pu 733 732 2 (pu1 733 732 2 M x) rest, L)
      rw [e]
theorem mt_c {fu : Nat} {a b c d : Int32} {M : mwM} {L : mwL} : ∀ (rest pre : List Int32) (f : Nat), pre ++ rest = l16 a b c d → rest.length < f → fX19_text_h6 fu a b c d f (sI (nz pre), sI pre.length, M, L) = (if ((M 732 2) + sI (nz (l16 a b c d))) ≤ 6000 then fX19_text_b62 fu a b c d 0 M L else fX19_text_b62 fu a b c d 1 M L) := by
  intro rest
  induction rest with
  | nil =>
    intro pre f hp hf
    obtain ⟨g, rfl⟩ : ∃ g, f = g + 1 := ⟨f - 1, by simp at hf; omega⟩
    have hl : pre.length = 16 := by rw [← l16_len a b c d, ← hp]; simp
    have hq : pre = l16 a b c d := by simpa using hp
    unfold fX19_text_h6
    rw [mloop_S, hl, hq]
    rfl
  | cons x rest ih =>
    intro pre f hp hf
    obtain ⟨g, rfl⟩ : ∃ g, f = g + 1 := ⟨f - 1, by simp at hf; omega⟩
    have hl : pre.length < 16 := by rw [← l16_len a b c d, ← hp]; simp
    have hx : (l16 a b c d)[pre.length]'hl = x := by simp [← hp]
    unfold fX19_text_h6
    rw [mloop_S]
    show fX19_text_i6 fu a b c d (fX19_text_h6 fu a b c d g) (sI (nz pre)) (sI pre.length) M L = _
    unfold fX19_text_i6 fX19_text_b35
    have hc : ¬ (16 : Int32) ≤ sI pre.length := by
      show ¬ sI 16 ≤ sI _
      rw [sI_le (by omega) (by omega)]
      omega
    have ihx := ih (pre ++ [x]) g (by simpa using hp) (by simp at hf; omega)
    have hk : sI pre.length + 1 = sI (pre ++ [x]).length := by rw [sI_1]; simp
    have hxm : x ∈ l16 a b c d := by rw [← hp]; simp
    obtain ⟨m, hm, em⟩ := l16_n hxm
    rw [if_neg hc, mt_char hl, mb3_s, hx]
    simp only [mlet]
    rw [hk]
    by_cases hxx : x = 0
    · rw [if_pos (by rw [hxx]; decide)]
      rw [← ihx, nz_app, nz_c0 hxx]
      rfl
    · have h0 : ¬ x ≤ 0 := by
        intro q
        apply hxx
        rw [em] at q ⊢
        have q2 : sI m ≤ sI 0 := q
        rw [sI_le (by omega) (by omega)] at q2
        have : m = 0 := by omega
        rw [this]; rfl
      rw [if_neg h0, ← ihx, nz_app, nz_c1 hxx]
      show _ = fX19_text_h6 fu a b c d g (sI (nz pre + 1), _, M, L)
      rw [← sI_1]
theorem mt_text {fu : Nat} {a b c d : Int32} {M : mwM} {L : mwL} {n : Nat} (hf : 17 ≤ fu) (hM : M 732 2 = sI n) (hn : n ≤ 6000) : DX19_text fu a b c d M L = if n + nz (l16 a b c d) ≤ 6000 then some (pu 733 732 2 (mset M 732 0 0) (l16 a b c d), L) else some (mset M 732 0 1, L) := by
  have zz : nz (l16 a b c d) ≤ 16 := nz_le _
  unfold DX19_text
  rw [show ((0 : Int32), (0 : Int32), M, L) = (sI (nz []), sI ([] : List Int32).length, M, L) from rfl]
  rw [mt_c (l16 a b c d) [] fu rfl (by rw [l16_len]; omega), hM, sI_add]
  have hc : (sI (n + nz (l16 a b c d)) ≤ 6000) ↔ n + nz (l16 a b c d) ≤ 6000 := by
    show (sI _ ≤ sI 6000) ↔ _
    rw [sI_le (by omega) (by omega)]
  by_cases h : n + nz (l16 a b c d) ≤ 6000
  · rw [if_pos (hc.mpr h), if_pos h]
    exact mt_w (l16 a b c d) [] (mset M 732 0 0) n fu rfl (by rw [l16_len]; omega) mset_s (by rw [mset_j (by decide)]; exact hM) h
  · rw [if_neg (fun q => h (hc.mp q)), if_neg h]
    obtain ⟨g, rfl⟩ : ∃ g, fu = g + 1 := ⟨fu - 1, by omega⟩
    unfold fX19_text_b62 fX19_text_h68
    simp only [mlet]
    rw [mloop_S]
    show fX19_text_i68 (g + 1) a b c d _ 0 (mset M 732 0 1) L = _
    unfold fX19_text_i68 fX19_text_b129
    rw [if_neg (by decide), if_neg (by rw [mset_s]; decide)]
/-- what both sides know of the text -/
def RT (M : mwM) : Prop := ∃ n, n ≤ 6000 ∧ M 1 4 = sI n ∧ M 732 2 = sI n ∧ ∀ j, j < n → M 2 j = M 733 j ∧ ∃ x, 0 < x ∧ x < 256 ∧ M 733 j = sI x
theorem st_text {fu : Nat} {a b c d : Int32} {M : mwM} {L : mwL} (hf : 17 ≤ fu) (h : RT M) : ∃ k M1 M2, DL_text fu a b c d M L = some (k, M1, L) ∧ DX19_text fu a b c d M1 L = some (M2, L) ∧ M2 732 0 = k ∧ RT M2 ∧ (∀ e j, e ≠ 2 → e ≠ 733 → ¬ (e = 1 ∧ j = 4) → ¬ (e = 732 ∧ (j = 0 ∨ j = 2)) → M2 e j = M e j) := by
  obtain ⟨n, hn, h1, h2, h3⟩ := h
  by_cases hc : n + nz (l16 a b c d) ≤ 6000
  · obtain ⟨p1, p2, p3, p4⟩ := pu_all (r := 2) (c := 1) (f := 4) (by decide) (l16 a b c d) M n h1 (by omega)
    have hm2 : mset (pu 2 1 4 M (l16 a b c d)) 732 0 0 732 2 = sI n := by rw [mset_j (by decide), p2 _ _ (by decide) (by decide), h2]
    obtain ⟨q1, q2, q3, q4⟩ := pu_all (r := 733) (c := 732) (f := 2) (by decide) (l16 a b c d) (mset (pu 2 1 4 M (l16 a b c d)) 732 0 0) n hm2 (by omega)
    refine ⟨0, pu 2 1 4 M (l16 a b c d), pu 733 732 2 (mset (pu 2 1 4 M (l16 a b c d)) 732 0 0) (l16 a b c d), ?_, ?_, ?_, ?_, ?_⟩
    · rw [ct_text (by omega) h1 hn, if_pos hc]
    · rw [mt_text (by omega) (by rw [p2 _ _ (by decide) (by decide)]; exact h2) hn, if_pos hc]
    · rw [q2 _ _ (by decide) (by decide), mset_s]
    · refine ⟨n + nz (l16 a b c d), hc, ?_, q1, ?_⟩
      · rw [q2 _ _ (by decide) (by decide), mset_k (by decide), p1]
      · intro j hj
        rw [q2 2 j (by decide) (by simp), mset_k (by decide)]
        by_cases hjn : j < n
        · rw [p3 j hjn, q3 j hjn, mset_k (by decide), p2 _ _ (by decide) (by simp)]
          exact h3 j hjn
        · have ej : j = n + (j - n) := by omega
          have hi : j - n < nz (l16 a b c d) := by omega
          rw [ej, p4 (j - n) hi, q4 (j - n) hi]
          refine ⟨rfl, ?_⟩
          have hmem := List.getElem_mem (l := (l16 a b c d).filter (fun x => x ≠ 0)) (n := j - n) hi
          rw [List.mem_filter] at hmem
          obtain ⟨x, hx, ex⟩ := l16_n hmem.1
          refine ⟨x, ?_, hx, ex⟩
          have hne := hmem.2
          rw [ex] at hne
          rcases Nat.eq_zero_or_pos x with rfl | hp
          · exact absurd hne (by decide)
          · exact hp
    · intro e j e1 e2 e3 e4
      rw [q2 e j e2 (fun q => e4 ⟨q.1, Or.inr q.2⟩), mset_n (fun q => e4 ⟨q.1, Or.inl q.2⟩), p2 e j e1 e3]
  · refine ⟨1, M, mset M 732 0 1, ?_, ?_, mset_s, ?_, ?_⟩
    · rw [ct_text (by omega) h1 hn, if_neg hc]
    · rw [mt_text (by omega) h2 hn, if_neg hc]
    · refine ⟨n, hn, ?_, ?_, ?_⟩
      · rw [mset_k (by decide)]; exact h1
      · rw [mset_j (by decide)]; exact h2
      · intro j hj
        rw [mset_k (by decide), mset_k (by decide)]
        exact h3 j hj
    · intro e j _ _ _ e4
      rw [mset_n (fun q => e4 ⟨q.1, Or.inl q.2⟩)]
theorem st_cut {fu : Nat} {a : Int32} {M : mwM} {L : mwL} (h : RT M) : ∃ k M1 L1 r M2, DL_cut fu a M L = some (k, M1, L1) ∧ DX19_cut fu a M1 L1 = some (r, M2, L1) ∧ M2 732 0 = k ∧ (k = 0 → L1 1577 0 = r.toInt64) ∧ (∀ e j, e ≠ 1577 → L1 e j = L e j) ∧ RT M2 ∧ (∀ e j, ¬ (e = 1 ∧ j = 4) → ¬ (e = 732 ∧ (j = 0 ∨ j = 2)) → M2 e j = M e j) := by
  obtain ⟨n, hn, h1, h2, h3⟩ := h
  unfold DL_cut DX11_cut fX11_cut_b15 DX19_cut fX19_cut_b13 fX19_cut_b18
  by_cases ha : a < 0
  · refine ⟨1, M, L, 0, mset M 732 0 1, ?_, ?_, mset_s, fun q => absurd q (by decide), fun _ _ _ => rfl, ⟨n, hn, ?_, ?_, ?_⟩, ?_⟩
    · rw [if_pos ha]; rfl
    · rw [if_pos ha]; simp [mlet, mset_s]
    · rw [mset_k (by decide)]; exact h1
    · rw [mset_j (by decide)]; exact h2
    · intro j hj
      rw [mset_k (by decide), mset_k (by decide)]
      exact h3 j hj
    · intro e j _ e4
      rw [mset_n (fun q => e4 ⟨q.1, Or.inl q.2⟩)]
  · by_cases hb : a ≤ sI n
    · have h0 : 0 ≤ a.toInt := by
        have : ¬ a.toInt < (0 : Int32).toInt := fun q => ha (Int32.lt_iff_toInt_lt.mpr q)
        have hz : (0 : Int32).toInt = 0 := rfl
        omega
      have han := sI_of h0
      have hle : nn a ≤ n := by
        have q := Int32.le_iff_toInt_le.mp hb
        rw [sI_toInt (by omega)] at q
        have : (nn a : Int) = a.toInt := nn_int h0
        omega
      refine ⟨0, mset M 1 4 a, mset L 1577 0 a.toInt64, a, mset (mset (mset M 1 4 a) 732 0 0) 732 2 a, ?_, ?_, ?_, fun _ => mset_s, fun e j he => mset_k he, ⟨nn a, by omega, ?_, ?_, ?_⟩, ?_⟩
      · rw [if_neg ha, h1, if_pos hb]; rfl
      · rw [if_neg ha, mset_k (a := 732) (by decide), h2, if_pos hb]; simp [mlet, mset_s]
      · rw [mset_j (by decide), mset_s]
      · rw [mset_k (by decide), mset_k (by decide), mset_s]; exact han
      · rw [mset_s]; exact han
      · intro j hj
        rw [mset_k (by decide), mset_k (by decide), mset_k (by decide), mset_k (by decide), mset_k (by decide), mset_k (by decide)]
        exact h3 j (by omega)
      · intro e j e3 e4
        rw [mset_n (fun q => e4 ⟨q.1, Or.inr q.2⟩), mset_n (fun q => e4 ⟨q.1, Or.inl q.2⟩), mset_n e3]
    · refine ⟨1, M, L, 0, mset M 732 0 1, ?_, ?_, mset_s, fun q => absurd q (by decide), fun _ _ _ => rfl, ⟨n, hn, ?_, ?_, ?_⟩, ?_⟩
      · rw [if_neg ha, h1, if_neg hb]; rfl
      · rw [if_neg ha, h2, if_neg hb]; simp [mlet, mset_s]
      · rw [mset_k (by decide)]; exact h1
      · rw [mset_j (by decide)]; exact h2
      · intro j hj
        rw [mset_k (by decide), mset_k (by decide)]
        exact h3 j hj
      · intro e j _ e4
        rw [mset_n (fun q => e4 ⟨q.1, Or.inl q.2⟩)]
/-! TROUBLES: status as eight bits on one side, as one number on the other -/
/-- bit b of n made v -/
def sb (n b v : Nat) : Nat := n - (n / 2^b % 2) * 2^b + v * 2^b
theorem sb_lt : ∀ n, n < 256 → ∀ b, b < 8 → ∀ v, v < 2 → sb n b v < 256 := by decide +kernel
theorem sb_dig : ∀ n, n < 256 → ∀ b, b < 8 → ∀ v, v < 2 → ∀ c, c < 8 → sb n b v / 2^c % 2 = if c = b then v else n / 2^c % 2 := by decide +kernel
def dg (M : mwM) (c n : Nat) : Prop := ∀ b, b < 8 → M 908 (8 * c + b) = sI (n / 2^b % 2)
theorem dg_set {M : mwM} {c n b v : Nat} {x : Int32} (h : dg M c n) (hn : n < 256) (hb : b < 8) (hv : v < 2) (hx : x = sI v) : dg (mset M 908 (8 * c + b) x) c (sb n b v) := by
  intro b' hb'
  rw [sb_dig n hn b hb v hv b' hb']
  by_cases e : b' = b
  · rw [if_pos e, e, mset_s, hx]
  · rw [if_neg e, mset_j (by omega)]
    exact h b' hb'
theorem dg_o {M : mwM} {c n a j : Nat} {x : Int32} (h : dg M c n) (ha : 908 ≠ a) : dg (mset M a j x) c n := by
  intro b hb
  rw [mset_k ha]
  exact h b hb
theorem dg_f {M M' : mwM} {c n : Nat} (h : dg M c n) (hf : ∀ b, b < 8 → M' 908 (8 * c + b) = M 908 (8 * c + b)) : dg M' c n := by
  intro b hb
  rw [hf b hb]
  exact h b hb
theorem bo_0 : vp_nar .boolean 0 = sI 0 := by decide +kernel
theorem bo_1 : vp_nar .boolean 1 = sI 1 := by decide +kernel
theorem bo_n {v : Nat} (h : v < 2) : vp_nar .boolean (sI v) = sI v := by
  have : v = 0 ∨ v = 1 := by omega
  rcases this with rfl | rfl
  · exact bo_0
  · exact bo_1
theorem d2 (n b : Nat) : n / 2^b % 2 < 2 := Nat.mod_lt _ (by decide)
theorem mzz_s {β : Type} {v : Nat} {x : Option β} (h : v < 2) : mzz (sI v) x = x := by
  have : v = 0 ∨ v = 1 := by omega
  rcases this with rfl | rfl
  · rfl
  · rfl
theorem m_isn {fu : Nat} {M : mwM} {L : mwL} {c n b : Nat} (hd : dg M c n) (hc : c ≤ 200) (hb : b < 8) : DX18_is fu (sI c) (sI b) M L = some (sI (n / 2^b % 2), M, L) := by
  unfold DX18_is
  rw [sI_lml, sI_add, mck_s (by omega) (by omega), sI_nn (by omega), hd b hb, mzz_s (d2 n b)]
theorem m_is {fu : Nat} {M : mwM} {L : mwL} {c n b : Nat} (hd : dg M c n) (hc : c ≤ 200) (hb : (OfNat.ofNat b : Nat) < 8) : DX18_is fu (sI c) (no_index (OfNat.ofNat b)) M L = some (sI (n / 2^(OfNat.ofNat b : Nat) % 2), M, L) := m_isn hd hc hb
theorem m_setn {fu : Nat} {M : mwM} {L : mwL} {c b : Nat} {x : Int32} (hc : c ≤ 200) (hb : b < 8) : DX18_set fu (sI c) (sI b) x M L = some (mset M 908 (8 * c + b) (vp_nar .boolean x), L) := by
  unfold DX18_set
  rw [sI_lml, sI_add, mck_s (by omega) (by omega), sI_nn (by omega)]
  rfl
theorem m_set {fu : Nat} {M : mwM} {L : mwL} {c b : Nat} {x : Int32} (hc : c ≤ 200) (hb : (OfNat.ofNat b : Nat) < 8) : DX18_set fu (sI c) (no_index (OfNat.ofNat b)) x M L = some (mset M 908 (8 * c + (OfNat.ofNat b : Nat)) (vp_nar .boolean x), L) := m_setn hc hb
theorem dig_sum : ∀ n, n < 256 → ∀ b, b < 8 → sI (n % 2^b) + (if n / 2^b % 2 = 0 then (0 : Int32) else (1 : Int32) <<< (sI b &&& 31)) = sI (n % 2^(b+1)) := by decide +kernel
/-- the status as a number -/
theorem m_statusOf {fu : Nat} {M : mwM} {L : mwL} {c n : Nat} (hd : dg M c n) (hn : n < 256) (hc : c ≤ 200) (hf : 9 ≤ fu) : DX18_statusOf fu (sI c) M L = some (sI n, M, L) := by
  have h := wq_for (body := fun r4 s => fX18_statusOf_i4 fu (sI c) r4 s.1 s.2.1 s.2.2.1 s.2.2.2) (Q := fun q => q = (sI n, M, L)) (fun i (a : Int32) => (a, sI i, M, L)) (fun i a => a = sI (n % 2^i)) 8 ?_ ?_ 8 0 0 fu (by omega) (by omega) (by show (0 : Int32) = sI (n % 1); rw [Nat.mod_one]; rfl)
  · obtain ⟨q, e, rfl⟩ := h
    exact e
  · intro i a r hi ha ih
    subst ha
    show wq (fX18_statusOf_i4 fu (sI c) r (sI (n % 2^i)) (sI i) M L) _
    unfold fX18_statusOf_i4 fX18_statusOf_b28
    have h8 : ¬ (8 : Int32) ≤ sI i := by rw [sI_lle (by omega) (by omega)]; omega
    rw [if_neg h8, m_isn hd hc hi, mb3_s]
    simp only [mlet]
    have hs := dig_sum n hn i hi
    rw [sI_1]
    have hh := ih _ rfl
    rw [← hs] at hh
    by_cases hz : n / 2^i % 2 = 0
    · rw [if_pos hz] at hh
      rw [if_pos (by rw [hz]; rfl)]
      simpa using hh
    · rw [if_neg hz] at hh
      rw [if_neg (by rw [sI_eql (by have := d2 n i; omega) (by omega)]; exact hz)]
      exact hh
  · intro a r ha
    subst ha
    show wq (fX18_statusOf_i4 fu (sI c) r (sI (n % 2^8)) (sI 8) M L) _
    unfold fX18_statusOf_i4
    rw [if_pos (by decide)]
    exact wq_some (by rw [Nat.mod_eq_of_lt (show n < 2^8 by omega)])
theorem fresh_d : ∀ b, b < 8 → 80 / 2^b % 2 = if b = 4 ∨ b = 6 then 1 else 0 := by decide +kernel
/-- a code as new -/
theorem m_freshen {fu : Nat} {M : mwM} {L : mwL} {c : Nat} (hc : c ≤ 200) (hf : 9 ≤ fu) : wq (DX18_freshen fu (sI c) M L) (fun q => q.2 = L ∧ dg q.1 c 80 ∧ q.1 907 c = 0 ∧ q.1 909 c = 0 ∧ q.1 910 c = 0 ∧ q.1 911 c = 0 ∧ ∀ a j, ¬ (a = 908 ∧ 8 * c ≤ j ∧ j < 8 * c + 8) → ¬ (j = c ∧ (a = 907 ∨ a = 909 ∨ a = 910 ∨ a = 911)) → q.1 a j = M a j) := by
  refine wq_for (body := fun r2 s => fX18_freshen_i2 fu (sI c) r2 s.1 s.2.1 s.2.2) (fun i (a : mwM) => (sI i, a, L)) (fun i a => (∀ b, b < i → a 908 (8 * c + b) = sI (80 / 2^b % 2)) ∧ ∀ e j, ¬ (e = 908 ∧ 8 * c ≤ j ∧ j < 8 * c + 8) → a e j = M e j) 8 ?_ ?_ 8 0 M fu (by omega) (by omega) ⟨fun b hb => by omega, fun _ _ _ => rfl⟩
  · intro i a r hi ⟨h1, h2⟩ ih
    show wq (fX18_freshen_i2 fu (sI c) r (sI i) a L) _
    unfold fX18_freshen_i2 fX18_freshen_b22 fX18_freshen_b27
    have h8 : ¬ (8 : Int32) ≤ sI i := by rw [sI_lle (by omega) (by omega)]; omega
    have key : ∀ x v, x = sI v → v < 2 → v = 80 / 2^i % 2 → wq (mb2 (DX18_set fu (sI c) (sI i) x a L) fun M12 L13 => mlet (sI i + 1) fun x14 => r (x14, M12, L13)) (fun q => q.2 = L ∧ dg q.1 c 80 ∧ q.1 907 c = 0 ∧ q.1 909 c = 0 ∧ q.1 910 c = 0 ∧ q.1 911 c = 0 ∧ ∀ a j, ¬ (a = 908 ∧ 8 * c ≤ j ∧ j < 8 * c + 8) → ¬ (j = c ∧ (a = 907 ∨ a = 909 ∨ a = 910 ∨ a = 911)) → q.1 a j = M a j) := by
      intro x v hx hv hv2
      rw [m_setn hc hi, mb2_s, hx, bo_n hv]
      simp only [mlet]
      rw [sI_1]
      refine ih _ ⟨?_, ?_⟩
      · intro b hb
        by_cases e : b = i
        · rw [e, mset_s, hv2]
        · rw [mset_j (by omega)]; exact h1 b (by omega)
      · intro e j hj
        rw [mset_n (fun q => hj ⟨q.1, by omega, by omega⟩)]
        exact h2 e j hj
    have fd := fresh_d i hi
    rw [if_neg h8]
    by_cases e4 : i = 4
    · rw [if_pos (by rw [e4]; rfl)]
      exact key 1 1 rfl (by omega) (by rw [fd, if_pos (Or.inl e4)])
    · rw [if_neg (by rw [sI_eql (by omega) (by omega)]; exact e4)]
      by_cases e6 : i = 6
      · rw [if_pos (by rw [e6]; rfl)]
        exact key 1 1 rfl (by omega) (by rw [fd, if_pos (Or.inr e6)])
      · rw [if_neg (by rw [sI_eql (by omega) (by omega)]; exact e6)]
        exact key 0 0 rfl (by omega) (by rw [fd, if_neg (by omega)])
  · intro a r ⟨h1, h2⟩
    show wq (fX18_freshen_i2 fu (sI c) r (sI 8) a L) _
    unfold fX18_freshen_i2
    rw [if_pos (by decide)]
    simp (disch := omega) only [mlet, mck_s, sI_nn]
    refine wq_some ⟨rfl, ?_, ?_, ?_, ?_, ?_, ?_⟩
    · exact dg_o (dg_o (dg_o (dg_o h1 (by decide)) (by decide)) (by decide)) (by decide)
    · simp [mset]
    · simp [mset]
    · simp [mset]
    · simp [mset]
    · intro e j hj hj2
      simp only []
      rw [mset_n (by omega), mset_n (by omega), mset_n (by omega), mset_n (by omega)]
      exact h2 e j hj
theorem m_keep {fu : Nat} {M : mwM} {L : mwL} {c n : Nat} (hd : dg M c n) (hc : c ≤ 200) (hf : 9 ≤ fu) : wq (DX18_keep fu (sI c) M L) (fun q => q.2 = L ∧ ∀ a j, a ≠ 912 → a ≠ 913 → a ≠ 914 → a ≠ 915 → q.1 a j = M a j) := by
  refine wq_for (body := fun r2 s => fX18_keep_i2 fu (sI c) r2 s.1 s.2.1 s.2.2) (fun i (a : mwM) => (sI i, a, L)) (fun i a => ∀ e j, e ≠ 912 → a e j = M e j) 8 ?_ ?_ 8 0 M fu (by omega) (by omega) (fun _ _ _ => rfl)
  · intro i a r hi h2 ih
    show wq (fX18_keep_i2 fu (sI c) r (sI i) a L) _
    unfold fX18_keep_i2
    have h8 : ¬ (8 : Int32) ≤ sI i := by rw [sI_lle (by omega) (by omega)]; omega
    have hd2 : dg a c n := dg_f hd (fun b _ => h2 908 _ (by decide))
    rw [if_neg h8, m_isn hd2 hc hi, mb3_s, sI_lml, sI_add, mck_s (by omega) (by omega)]
    simp only [mlet]
    rw [sI_1]
    refine ih _ ?_
    intro e j he
    rw [mset_k he]
    exact h2 e j he
  · intro a r h2
    show wq (fX18_keep_i2 fu (sI c) r (sI 8) a L) _
    unfold fX18_keep_i2
    rw [if_pos (by decide)]
    simp (disch := omega) only [mlet, mck_s, sI_nn]
    refine wq_some ⟨rfl, ?_⟩
    intro e j e1 e2 e3 e4
    simp only []
    rw [mset_k e4, mset_k e3, mset_k e2]
    exact h2 e j e1
/-! how many below N -/
def cnt (p : Nat → Bool) : Nat → Nat
  | 0 => 0
  | n + 1 => cnt p n + (if p n then 1 else 0)
theorem cnt_le (p : Nat → Bool) (n : Nat) : cnt p n ≤ n := by
  induction n with
  | zero => exact Nat.le_refl _
  | succ n ih =>
    show cnt p n + (if p n then 1 else 0) ≤ _
    split <;> omega
theorem cnt_filter (p : Nat → Bool) (n : Nat) : cnt p n = ((List.range n).filter p).length := by
  induction n with
  | zero => rfl
  | succ n ih =>
    rw [List.range_succ, List.filter_append, List.length_append, ← ih]
    show cnt p n + (if p n then 1 else 0) = _
    by_cases h : p n <;> simp [h]
theorem cnt_list {p : Nat → Bool} {n : Nat} {l : List Nat} (hd : l.Nodup) (hl : ∀ x ∈ l, x < n) (hp : ∀ i, i < n → (p i = true ↔ i ∈ l)) : cnt p n = l.length := by
  rw [cnt_filter]
  apply List.Perm.length_eq
  rw [List.perm_ext_iff_of_nodup (List.nodup_range.filter p) hd]
  intro a
  rw [List.mem_filter, List.mem_range]
  constructor
  · intro h; exact (hp a h.1).mp h.2
  · intro h; exact ⟨hl a h, (hp a (hl a h)).mpr h⟩
theorem cnt_congr {p q : Nat → Bool} {n : Nat} (h : ∀ i, i < n → p i = q i) : cnt p n = cnt q n := by
  induction n with
  | zero => rfl
  | succ n ih =>
    show cnt p n + (if p n then 1 else 0) = cnt q n + (if q n then 1 else 0)
    rw [ih (fun i hi => h i (by omega)), h n (by omega)]
/-- the memory of troubles: in the order in which they came, on one side by places, on the other by numbers -/
def oke (M : mwM) (N : Nat) (l : List Nat) (sd : Nat → Nat) (E : Nat) : Prop :=
  l.length ≤ 8 ∧ (∀ x ∈ l, x < N) ∧ M 139 3 = sI l.length ∧ (∀ e (h : e < l.length), M 153 e = sI (l[e]'h)) ∧ (∀ i, i < N → M 916 (i + 1) = sI (sd i)) ∧ (∀ i, i < N → (0 < sd i ↔ i ∈ l)) ∧ l.Pairwise (fun x y => sd x < sd y) ∧ (∃ t, t ≤ E ∧ M 902 19 = sI t ∧ ∀ i, i < N → sd i ≤ t) ∧ (∀ i ∈ l, M 151 i = M 918 (8 * (i + 1) + 1) ∧ M 152 i = M 918 (8 * (i + 1) + 5))
theorem oke_nodup {l : List Nat} {sd : Nat → Nat} (h : l.Pairwise (fun x y => sd x < sd y)) : l.Nodup := h.imp (fun hxy e => by subst e; omega)
theorem c_entryOf {fu : Nat} {M : mwM} {L : mwL} {i : Nat} {l : List Nat} (hf : 9 ≤ fu) (hi : i < 30) (h8 : l.length ≤ 8) (hl : ∀ x ∈ l, x < 30) (hE : M 139 3 = sI l.length) (hM : ∀ e (h : e < l.length), M 153 e = sI (l[e]'h)) : wq (DX10_entryOf fu (sI i) M L) (fun q => q.2 = (M, L) ∧ ((q.1 = -1 ∧ i ∉ l) ∨ ∃ e, ∃ h : e < l.length, q.1 = sI e ∧ l[e]'h = i)) := by
  refine wq_for (body := fun r2 s => fX10_entryOf_i2 fu (sI i) r2 s.1 s.2.1 s.2.2) (fun j (_ : Unit) => (sI j, M, L)) (fun j _ => ∀ e (h : e < l.length), e < j → l[e]'h ≠ i) l.length ?_ ?_ l.length 0 () fu (by omega) (by omega) (fun _ _ h => by omega)
  · intro j _ r hj hP ih
    show wq (fX10_entryOf_i2 fu (sI i) r (sI j) M L) _
    unfold fX10_entryOf_i2
    rw [hE, if_neg (by rw [sI_le (by omega) (by omega)]; omega), mck_s (by omega) (by omega), sI_nn (by omega), hM j hj]
    have hlj := hl _ (List.getElem_mem hj)
    by_cases hc : l[j] = i
    · rw [if_pos (by rw [hc])]
      exact wq_some ⟨rfl, Or.inr ⟨j, hj, rfl, hc⟩⟩
    · rw [if_neg (by rw [sI_eq (by omega) (by omega)]; exact hc)]
      simp only [mlet]
      rw [sI_1]
      refine ih () ?_
      intro e he hej
      by_cases hh : e = j
      · subst hh; exact hc
      · exact hP e he (by omega)
  · intro _ r hP
    show wq (fX10_entryOf_i2 fu (sI i) r (sI l.length) M L) _
    unfold fX10_entryOf_i2
    rw [hE, if_pos (by rw [sI_le (by omega) (by omega)]; omega)]
    refine wq_some ⟨rfl, Or.inl ⟨rfl, ?_⟩⟩
    intro hm
    obtain ⟨e, he, h⟩ := List.getElem_of_mem hm
    exact hP e he he h
theorem c_remove {fu : Nat} {M : mwM} {L : mwL} {e : Nat} {l : List Nat} (hf : 9 ≤ fu) (h8 : l.length ≤ 8) (he : e < l.length) (hE : M 139 3 = sI l.length) (hM : ∀ e (h : e < l.length), M 153 e = sI (l[e]'h)) : wq (DX10_removeEntry fu (sI e) M L) (fun q => q.2 = L ∧ q.1 139 3 = sI (l.eraseIdx e).length ∧ (∀ x (h : x < (l.eraseIdx e).length), q.1 153 x = sI ((l.eraseIdx e)[x]'h)) ∧ ∀ a j, a ≠ 153 → ¬ (a = 139 ∧ j = 3) → q.1 a j = M a j) := by
  have hlen : (l.eraseIdx e).length = l.length - 1 := List.length_eraseIdx_of_lt he
  unfold DX10_removeEntry
  rw [if_pos (by rw [sI_lle (by omega) (by omega)]; omega)]
  refine wq_for (body := fun r2 s => fX10_removeEntry_i7 fu (sI e) r2 s.1 s.2.1 s.2.2) (fun j (a : mwM) => (sI j, a, L)) (fun j a => e ≤ j ∧ a 139 3 = sI l.length ∧ (∀ x (h : x < l.length), a 153 x = if e ≤ x ∧ x < j then sI (l[x + 1]?.getD 0) else sI (l[x]'h)) ∧ ∀ b y, b ≠ 153 → a b y = M b y) (l.length - 1) ?_ ?_ (l.length - 1 - e) e M fu (by omega) (by omega) ⟨Nat.le_refl _, hE, ?_, fun _ _ _ => rfl⟩
  · intro j a r hj ⟨h0, h1, h2, h3⟩ ih
    show wq (fX10_removeEntry_i7 fu (sI e) r (sI j) a L) _
    unfold fX10_removeEntry_i7
    rw [h1, sI_1, if_neg (by rw [sI_le (by omega) (by omega)]; omega), mck_s (by omega) (by omega), mck_s (by omega) (by omega)]
    simp only [mlet]
    rw [sI_nn (by omega), sI_nn (by omega)]
    refine ih _ ⟨by omega, by rw [mset_k (by decide)]; exact h1, ?_, ?_⟩
    · intro x hx
      by_cases hxj : x = j
      · subst hxj
        rw [mset_s, h2 (x + 1) (by omega)]
        rw [if_neg (by omega), if_pos (by omega), List.getElem?_eq_getElem (by omega)]; rfl
      · rw [mset_j hxj, h2 x hx]
        by_cases hc : e ≤ x ∧ x < j
        · rw [if_pos hc, if_pos (by omega)]
        · rw [if_neg hc, if_neg (by omega)]
    · intro b y hb
      rw [mset_k hb]
      exact h3 b y hb
  · intro a r ⟨_, h1, h2, h3⟩
    show wq (fX10_removeEntry_i7 fu (sI e) r (sI (l.length - 1)) a L) _
    unfold fX10_removeEntry_i7
    rw [h1, sI_1, if_pos (by rw [sI_le (by omega) (by omega)]; omega)]
    simp only [mlet]
    refine wq_some ⟨rfl, ?_, ?_, ?_⟩
    · dsimp only
      rw [mset_s, hlen]
      have : sI l.length = sI (l.length - 1) + 1 := by rw [sI_1]; congr 1; omega
      rw [this]
      simp
    · intro x hx
      dsimp only
      rw [mset_k (by decide), h2 x (by omega), List.getElem_eraseIdx]
      by_cases hc : e ≤ x
      · rw [if_pos (by omega), dif_neg (by omega), List.getElem?_eq_getElem (by omega)]; rfl
      · rw [if_neg (by omega), dif_pos (by omega)]
    · intro b y hb hn
      dsimp only
      rw [mset_n hn]
      exact h3 b y hb
  · intro x hx
    rw [if_neg (by omega)]
    exact hM x hx
/-! which entry goes: the weight of a code, and the one that both sides choose -/
/-- weight: a greater number is a lower priority; of one priority those that are not failed weigh more -/
def wt (M : mwM) (i : Nat) : Nat := 2 * nn (M 145 i) + 1 - nn (M 146 i) % 2
/-- x is the one that goes for a code of priority p -/
def isBest (M : mwM) (l : List Nat) (sd : Nat → Nat) (p x : Nat) : Prop := x ∈ l ∧ 2 * p < wt M x ∧ (∀ y ∈ l, wt M y ≤ wt M x) ∧ (∀ y ∈ l, wt M y = wt M x → sd x ≤ sd y)
theorem isBest_uni {M : mwM} {l : List Nat} {sd : Nat → Nat} {p x y : Nat} (hs : l.Pairwise (fun x y => sd x < sd y)) (hx : isBest M l sd p x) (hy : isBest M l sd p y) : x = y := by
  have h1 := hx.2.2.1 y hy.1
  have h2 := hy.2.2.1 x hx.1
  have h3 := hx.2.2.2 y hy.1 (by omega)
  have h4 := hy.2.2.2 x hx.1 (by omega)
  have h5 : sd x = sd y := by omega
  obtain ⟨a, ha, ea⟩ := List.getElem_of_mem hx.1
  obtain ⟨b, hb, eb⟩ := List.getElem_of_mem hy.1
  rw [List.pairwise_iff_getElem] at hs
  rcases Nat.lt_trichotomy a b with h | h | h
  · have := hs a b ha hb h
    rw [ea, eb] at this
    omega
  · subst h; rw [← ea, ← eb]
  · have := hs b a hb ha h
    rw [ea, eb] at this
    omega
theorem wt_eq {M : mwM} {L : mwL} {fu i p n : Nat} (hi : i < 30) (h1 : M 145 i = sI p) (h2 : M 146 i = sI n) (hp : p < 256) (hn : n < 256) : wt M i = 2 * p + 1 - n % 2 ∧ DX10_weightOf fu (sI i) M L = some (sI (wt M i), M, L) := by
  have ha : ∀ n, n < 256 → sI n &&& 1 = sI (n % 2) := by decide +kernel
  have hw : wt M i = 2 * p + 1 - n % 2 := by
    unfold wt
    rw [h1, h2, nn_s (by omega), nn_s (by omega)]
  refine ⟨hw, ?_⟩
  unfold DX10_weightOf
  rw [mck_s (by omega) (by omega), mck_s (by omega) (by omega), sI_nn (by omega), h1, h2, ha n hn, sI_lml, sI_1, hw]
  have : sI (2 * p + 1) = sI (2 * p + 1 - n % 2) + sI (n % 2) := by rw [sI_add]; congr 1; omega
  rw [this]
  simp
/-- what is known of a code's priority and status -/
def okp (A M : mwM) (N : Nat) : Prop := ∀ i, i < N → ∃ p n, 1 ≤ p ∧ p < 256 ∧ n < 256 ∧ A 145 i = sI p ∧ A 146 i = sI n ∧ M 903 (i + 1) = sI p ∧ dg M (i + 1) n
def okq (M : mwM) (N : Nat) : Prop := ∀ i, i < N → ∃ p n, p < 256 ∧ n < 256 ∧ M 145 i = sI p ∧ M 146 i = sI n
theorem c_findLesser {fu : Nat} {M : mwM} {L : mwL} {N i p : Nat} {l : List Nat} {sd : Nat → Nat} (hf : 9 ≤ fu) (hN : N ≤ 30) (hi : i < N) (hp : M 145 i = sI p) (hpl : p < 256) (h8 : l.length ≤ 8) (hl : ∀ x ∈ l, x < N) (hs : l.Pairwise (fun x y => sd x < sd y)) (hk : okq M N) (hE : M 139 3 = sI l.length) (hM : ∀ e (h : e < l.length), M 153 e = sI (l[e]'h)) : wq (DX10_findLesser fu (sI i) M L) (fun q => q.2 = (M, L) ∧ ((q.1 = -1 ∧ ∀ y ∈ l, wt M y ≤ 2 * p) ∨ ∃ e, ∃ h : e < l.length, q.1 = sI e ∧ isBest M l sd p (l[e]'h))) := by
  unfold DX10_findLesser
  rw [mck_s (by omega) (by omega), sI_nn (by omega), hp, sI_lml]
  simp only [mlet]
  have hs' := List.pairwise_iff_getElem.mp hs
  refine wq_for (body := fun r2 s => fX10_findLesser_i16 fu (sI i) r2 s.1 s.2.1 s.2.2.1 s.2.2.2.1 s.2.2.2.2) (fun j (a : Int32 × Nat) => (a.1, sI a.2, sI j, M, L)) (fun j a => a.2 < 1000 ∧ ((a.1 = -1 ∧ a.2 = 2 * p ∧ ∀ e (h : e < l.length), e < j → wt M (l[e]'h) ≤ 2 * p) ∨ ∃ e, ∃ h : e < l.length, e < j ∧ a.1 = sI e ∧ a.2 = wt M (l[e]'h) ∧ 2 * p < wt M (l[e]'h) ∧ (∀ e' (h' : e' < l.length), e' < j → wt M (l[e']'h') ≤ wt M (l[e]'h)) ∧ (∀ e' (h' : e' < l.length), e' < e → wt M (l[e']'h') < wt M (l[e]'h)))) l.length ?_ ?_ l.length 0 (-1, 2 * p) fu (by omega) (by omega) ⟨by show 2 * p < 1000; omega, Or.inl ⟨rfl, rfl, fun _ _ h => by omega⟩⟩
  · rintro j ⟨v2, v3⟩ r hj ⟨hb, hP⟩ ih
    show wq (fX10_findLesser_i16 fu (sI i) r v2 (sI v3) (sI j) M L) _
    dsimp only at hb hP
    unfold fX10_findLesser_i16 fX10_findLesser_b55
    have hlj := hl _ (List.getElem_mem hj)
    obtain ⟨pj, nj, hp2, hn, e1, e2⟩ := hk _ hlj
    obtain ⟨hw, hd⟩ := wt_eq (L := L) (fu := fu) (by omega) e1 e2 hp2 hn
    rw [hE, if_neg (by rw [sI_le (by omega) (by omega)]; omega), mck_s (by omega) (by omega), sI_nn (by omega), hM j hj, hd, mb3_s]
    simp only [mlet]
    rw [sI_1]
    by_cases hc : wt M l[j] ≤ v3
    · rw [if_pos (by rw [sI_le (by omega) (by omega)]; exact hc)]
      refine ih (v2, v3) ⟨hb, ?_⟩
      rcases hP with ⟨q1, q2, q3⟩ | ⟨e, he, q0, q1, q2, q3, q4, q5⟩
      · left
        refine ⟨q1, q2, ?_⟩
        intro e he hej
        by_cases hh : e = j
        · subst hh; omega
        · exact q3 e he (by omega)
      · right
        refine ⟨e, he, by omega, q1, q2, q3, ?_, q5⟩
        intro e' he' hej
        by_cases hh : e' = j
        · subst hh; omega
        · exact q4 e' he' (by omega)
    · rw [if_neg (by rw [sI_le (by omega) (by omega)]; exact hc), mck_s (by omega) (by omega), hM j hj, hd, mb3_s]
      refine ih (sI j, wt M l[j]) ⟨by show wt M l[j] < 1000; omega, Or.inr ⟨j, hj, by omega, rfl, rfl, ?_, ?_, ?_⟩⟩
      · rcases hP with ⟨q1, q2, q3⟩ | ⟨e, he, q0, q1, q2, q3, q4, q5⟩
        · omega
        · omega
      · intro e' he' hej
        by_cases hh : e' = j
        · subst hh; omega
        · rcases hP with ⟨q1, q2, q3⟩ | ⟨e, he, q0, q1, q2, q3, q4, q5⟩
          · have := q3 e' he' (by omega); omega
          · have := q4 e' he' (by omega); omega
      · intro e' he' hej
        rcases hP with ⟨q1, q2, q3⟩ | ⟨e, he, q0, q1, q2, q3, q4, q5⟩
        · have := q3 e' he' (by omega); omega
        · have := q4 e' he' (by omega); omega
  · rintro ⟨v2, v3⟩ r ⟨hb, hP⟩
    show wq (fX10_findLesser_i16 fu (sI i) r v2 (sI v3) (sI l.length) M L) _
    unfold fX10_findLesser_i16
    rw [hE, if_pos (by rw [sI_le (by omega) (by omega)]; omega)]
    refine wq_some ⟨rfl, ?_⟩
    rcases hP with ⟨q1, q2, q3⟩ | ⟨e, he, q0, q1, q2, q3, q4, q5⟩
    · left
      refine ⟨q1, ?_⟩
      intro y hy
      obtain ⟨e, he, h⟩ := List.getElem_of_mem hy
      rw [← h]
      exact q3 e he he
    · right
      refine ⟨e, he, q1, List.getElem_mem he, q3, ?_, ?_⟩
      · intro y hy
        obtain ⟨e', he', h⟩ := List.getElem_of_mem hy
        rw [← h]
        exact q4 e' he' he'
      · intro y hy hwy
        obtain ⟨e', he', h⟩ := List.getElem_of_mem hy
        subst h
        rcases Nat.lt_trichotomy e e' with h | h | h
        · exact Nat.le_of_lt (hs' e e' he he' h)
        · subst h; exact Nat.le_refl _
        · have := q5 e' he' h
          omega
def pr (M : mwM) (e : Nat) : Nat := nn (M 145 e)
def fl (M : mwM) (e : Nat) : Nat := nn (M 146 e) % 2
theorem wt_pf (M : mwM) (e : Nat) : wt M e = 2 * pr M e + 1 - fl M e := rfl
theorem okp_at {A M : mwM} {N e : Nat} (hN : N ≤ 30) (hk : okp A M N) (he : e < N) : A 145 e = sI (pr A e) ∧ M 903 (e + 1) = sI (pr A e) ∧ 1 ≤ pr A e ∧ pr A e < 256 ∧ fl A e < 2 ∧ ∀ (fu : Nat) (L : mwL), DX18_is fu (sI (e + 1)) 0 M L = some (sI (fl A e), M, L) := by
  obtain ⟨p, n, h1, h2, h3, h4, h5, h6, h7⟩ := hk e he
  have ep : pr A e = p := by unfold pr; rw [h4, nn_s (by omega)]
  have ef : fl A e = n % 2 := by unfold fl; rw [h5, nn_s (by omega)]
  refine ⟨by rw [ep, h4], by rw [ep, h6], by omega, by omega, by omega, ?_⟩
  intro fu L
  have := m_isn (fu := fu) (L := L) (b := 0) h7 (by omega) (by omega)
  rw [ef]
  show DX18_is fu (sI (e + 1)) (sI 0) M L = _
  rw [this]
  simp
theorem m_goes3 {fu : Nat} {A M : mwM} {L : mwL} {N p low so a1 : Nat} {l : List Nat} {sd : Nat → Nat} (hf : 31 ≤ fu) (hN : N ≤ 30) (hsd : ∀ x, x < N → sd x < 2000000000) (hl : ∀ x ∈ l, x < N) (hk : okp A M N) (hC : M 902 2 = sI N) (hS : ∀ i, i < N → M 916 (i + 1) = sI (sd i)) (hS0 : ∀ i, i < N → (0 < sd i ↔ i ∈ l)) (hlow : low < 256) (hso : so < 2) (hso1 : so = 1 ↔ ∃ e ∈ l, pr A e = low ∧ fl A e = 0) (hl0 : low = 0 → ∀ y ∈ l, wt A y ≤ 2 * p) (hl1 : 0 < low → (∃ e ∈ l, 2 * p < wt A e ∧ pr A e = low) ∧ ∀ e ∈ l, 2 * p < wt A e → pr A e ≤ low) : wq (fX18_goes_h166 fu (sI a1) fu (sI low, sI so, 0, 1, M, L)) (fun q => q.2 = (M, L) ∧ ((q.1 = 0 ∧ ∀ y ∈ l, wt A y ≤ 2 * p) ∨ ∃ x, isBest A l sd p x ∧ q.1 = sI (x + 1))) := by
  refine wq_for (body := fun r s => fX18_goes_i166 fu (sI a1) r s.1 s.2.1 s.2.2.1 s.2.2.2.1 s.2.2.2.2.1 s.2.2.2.2.2) (fun j (b : Nat) => (sI low, sI so, sI b, sI (j + 1), M, L)) (fun j b => (0 < j → 0 < low) ∧ ((b = 0 ∧ ∀ e, e < j → ¬ (e ∈ l ∧ pr A e = low ∧ (so = 0 ∨ fl A e = 0))) ∨ ∃ x, b = x + 1 ∧ x < j ∧ x ∈ l ∧ pr A x = low ∧ (so = 0 ∨ fl A x = 0) ∧ ∀ e, e < j → (e ∈ l ∧ pr A e = low ∧ (so = 0 ∨ fl A e = 0)) → sd x ≤ sd e)) N ?_ ?_ N 0 0 fu (by omega) (by omega) ⟨fun h => by omega, Or.inl ⟨rfl, fun _ h => by omega⟩⟩
  · rintro j b r hj ⟨hj0, hP⟩ ih
    show wq (fX18_goes_i166 fu (sI a1) r (sI low) (sI so) (sI b) (sI (j + 1)) M L) _
    unfold fX18_goes_i166 fX18_goes_b263 fX18_goes_b218 fX18_goes_b214 fX18_goes_b219 fX18_goes_b253 fX18_goes_b248 fX18_goes_b255
    obtain ⟨k1, k2, k3, k4, k5, k6⟩ := okp_at hN hk hj
    have hb : b ≤ j := by rcases hP with ⟨h, _⟩ | ⟨x, h, h2, _⟩ <;> omega
    rw [hC, if_neg (by rw [sI_lt (by omega) (by omega)]; omega)]
    by_cases hz : low = 0
    · rw [if_pos (by rw [hz]; decide)]
      refine wq_some ⟨rfl, Or.inl ⟨?_, hl0 hz⟩⟩
      rcases hP with ⟨h, _⟩ | ⟨x, h, h2, _⟩
      · show sI b = 0
        rw [h]; rfl
      · have := hj0 (by omega); omega
    · rw [if_neg (by rw [sI_lel (by omega) (by omega)]; omega)]
      have hsj := hsd j hj
      have go : ∀ (c : Bool), (c = true ↔ (j ∈ l ∧ pr A j = low ∧ (so = 0 ∨ fl A j = 0))) → wq (if (if c then (1 : Int32) else 0) = 0 then mlet (sI (j + 1) + 1) (fun x46 => r (sI low, sI so, sI b, x46, M, L)) else (if sI b = 0 then mlet (sI (j + 1) + 1) (fun x46 => r (sI low, sI so, sI (j + 1), x46, M, L)) else mck (sI (j + 1)) 201 (mck (sI b) 201 (if (M 916 (sI b).toNatClampNeg) ≤ sI (sd j) then mlet (sI (j + 1) + 1) (fun x46 => r (sI low, sI so, sI b, x46, M, L)) else mlet (sI (j + 1) + 1) (fun x46 => r (sI low, sI so, sI (j + 1), x46, M, L)))))) (fun q => q.2 = (M, L) ∧ ((q.1 = 0 ∧ ∀ y ∈ l, wt A y ≤ 2 * p) ∨ ∃ x, isBest A l sd p x ∧ q.1 = sI (x + 1))) := by
        intro c hc
        simp only [mlet]
        rw [sI_1]
        cases c with
        | false =>
          rw [if_pos (by rfl)]
          have hn : ¬ (j ∈ l ∧ pr A j = low ∧ (so = 0 ∨ fl A j = 0)) := fun q => by have := hc.mpr q; cases this
          refine ih b ⟨fun _ => by omega, ?_⟩
          rcases hP with ⟨h1, h2⟩ | ⟨x, h1, h2, h3, h4, h5, h6⟩
          · left
            refine ⟨h1, ?_⟩
            intro e he
            by_cases hh : e = j
            · subst hh; exact hn
            · exact h2 e (by omega)
          · right
            refine ⟨x, h1, by omega, h3, h4, h5, ?_⟩
            intro e he hq
            by_cases hh : e = j
            · subst hh; exact absurd hq hn
            · exact h6 e (by omega) hq
        | true =>
          have hy := hc.mp rfl
          rw [if_neg (by decide)]
          rcases hP with ⟨h1, h2⟩ | ⟨x, h1, h2, h3, h4, h5, h6⟩
          · subst h1
            rw [if_pos (by rfl)]
            refine ih (j + 1) ⟨fun _ => by omega, Or.inr ⟨j, rfl, by omega, hy.1, hy.2.1, hy.2.2, ?_⟩⟩
            intro e he hq
            by_cases hh : e = j
            · subst hh; exact Nat.le_refl _
            · exact absurd hq (h2 e (by omega))
          · subst h1
            have hsx := hsd x (by omega)
            rw [if_neg (by rw [sI_eql (by omega) (by omega)]; omega), mck_s (by omega) (by omega), mck_s (by omega) (by omega), sI_nn (by omega), hS x (by omega)]
            by_cases hle : sd x ≤ sd j
            · rw [if_pos (by rw [sI_le (by omega) (by omega)]; exact hle)]
              refine ih (x + 1) ⟨fun _ => by omega, Or.inr ⟨x, rfl, by omega, h3, h4, h5, ?_⟩⟩
              intro e he hq
              by_cases hh : e = j
              · subst hh; exact hle
              · exact h6 e (by omega) hq
            · rw [if_neg (by rw [sI_le (by omega) (by omega)]; exact hle)]
              refine ih (j + 1) ⟨fun _ => by omega, Or.inr ⟨j, rfl, by omega, hy.1, hy.2.1, hy.2.2, ?_⟩⟩
              intro e he hq
              by_cases hh : e = j
              · subst hh; exact Nat.le_refl _
              · have := h6 e (by omega) hq; omega
      rw [mck_s (by omega) (by omega), sI_nn (by omega), hS j hj]
      by_cases hs0 : sd j = 0
      · rw [if_pos (by rw [hs0]; decide)]
        first | rw [hS j hj] | skip
        exact go false ⟨fun h => (by cases h), fun h => by have := (hS0 j hj).mpr h.1; omega⟩
      · rw [if_neg (by rw [sI_lel (by omega) (by omega)]; omega), mck_s (by omega) (by omega), k2]
        have hjl := (hS0 j hj).mp (by omega)
        by_cases hpl : pr A j = low
        · rw [if_pos (by rw [hpl])]
          by_cases hso0 : so = 0
          · rw [if_pos (by rw [hso0]; rfl)]
            first | rw [hS j hj] | skip
            exact go true ⟨fun _ => ⟨hjl, hpl, Or.inl hso0⟩, fun _ => rfl⟩
          · rw [if_neg (by rw [sI_eql (by omega) (by omega)]; exact hso0), k6, mb3_s]
            by_cases hf0 : fl A j = 0
            · rw [if_pos (by rw [hf0]; rfl)]
              first | rw [hS j hj] | skip
              exact go true ⟨fun _ => ⟨hjl, hpl, Or.inr hf0⟩, fun _ => rfl⟩
            · rw [if_neg (by rw [sI_eql (by omega) (by omega)]; exact hf0)]
              first | rw [hS j hj] | skip
              exact go false ⟨fun h => (by cases h), fun h => (by rcases h.2.2 with h | h <;> contradiction)⟩
        · rw [if_neg (by rw [sI_eq (by omega) (by omega)]; exact hpl)]
          first | rw [hS j hj] | skip
          exact go false ⟨fun h => (by cases h), fun h => absurd h.2.1 hpl⟩
  · rintro b r ⟨hj0, hP⟩
    show wq (fX18_goes_i166 fu (sI a1) r (sI low) (sI so) (sI b) (sI (N + 1)) M L) _
    unfold fX18_goes_i166 fX18_goes_b263
    rw [hC, if_pos (by rw [sI_lt (by omega) (by omega)]; omega)]
    refine wq_some ⟨rfl, ?_⟩
    by_cases hz : low = 0
    · left
      refine ⟨?_, hl0 hz⟩
      rcases hP with ⟨h, _⟩ | ⟨x, h, h2, _⟩
      · show sI b = 0
        rw [h]; rfl
      · have := hj0 (by omega); omega
    · right
      obtain ⟨⟨e0, he0, hw0, hp0⟩, hmax⟩ := hl1 (by omega)
      rcases hP with ⟨h1, h2⟩ | ⟨x, h1, h2, h3, h4, h5, h6⟩
      · exfalso
        by_cases hso0 : so = 0
        · exact h2 e0 (hl e0 he0) ⟨he0, hp0, Or.inl hso0⟩
        · obtain ⟨e, he, q1, q2⟩ := hso1.mp (by omega)
          exact h2 e (hl e he) ⟨he, q1, Or.inr q2⟩
      · refine ⟨x, ⟨h3, ?_, ?_, ?_⟩, by show sI b = sI (x + 1); rw [h1]⟩
        · have f0 := (okp_at hN hk (hl e0 he0)).2.2.2.2.1
          rw [wt_pf] at hw0 ⊢
          rcases h5 with h5 | h5
          · by_cases hff : fl A e0 = 0
            · exact absurd (hso1.mpr ⟨e0, he0, hp0, hff⟩) (by omega)
            · have fx := (okp_at hN hk (hl x h3)).2.2.2.2.1
              omega
          · omega
        · intro y hy
          have fy := (okp_at hN hk (hl y hy)).2.2.2.2.1
          have fx := (okp_at hN hk (hl x h3)).2.2.2.2.1
          by_cases hmy : 2 * p < wt A y
          · have hpy := hmax y hy hmy
            rw [wt_pf, wt_pf]
            by_cases hpe : pr A y = low
            · by_cases hfy : fl A y = 0
              · have hs1 := hso1.mpr ⟨y, hy, hpe, hfy⟩
                rcases h5 with h5 | h5 <;> omega
              · omega
            · omega
          · have f0 := (okp_at hN hk (hl e0 he0)).2.2.2.2.1
            rw [wt_pf] at hw0 hmy ⊢
            rw [wt_pf]
            rcases h5 with h5 | h5
            · by_cases hff : fl A e0 = 0
              · exact absurd (hso1.mpr ⟨e0, he0, hp0, hff⟩) (by omega)
              · omega
            · omega
        · intro y hy hwy
          have fy := (okp_at hN hk (hl y hy)).2.2.2.2.1
          have fx := (okp_at hN hk (hl x h3)).2.2.2.2.1
          rw [wt_pf, wt_pf] at hwy
          refine h6 y (hl y hy) ⟨hy, by omega, ?_⟩
          rcases h5 with h5 | h5
          · exact Or.inl h5
          · right; omega
theorem m_goes2 {fu : Nat} {A M : mwM} {L : mwL} {N p low a1 : Nat} {l : List Nat} {sd : Nat → Nat} (hf : 31 ≤ fu) (hN : N ≤ 30) (hsd : ∀ x, x < N → sd x < 2000000000) (hl : ∀ x ∈ l, x < N) (hk : okp A M N) (hC : M 902 2 = sI N) (hS : ∀ i, i < N → M 916 (i + 1) = sI (sd i)) (hS0 : ∀ i, i < N → (0 < sd i ↔ i ∈ l)) (hlow : low < 256) (hl0 : low = 0 → ∀ y ∈ l, wt A y ≤ 2 * p) (hl1 : 0 < low → (∃ e ∈ l, 2 * p < wt A e ∧ pr A e = low) ∧ ∀ e ∈ l, 2 * p < wt A e → pr A e ≤ low) : wq (fX18_goes_h104 fu (sI a1) fu (sI low, 0, 1, M, L)) (fun q => q.2 = (M, L) ∧ ((q.1 = 0 ∧ ∀ y ∈ l, wt A y ≤ 2 * p) ∨ ∃ x, isBest A l sd p x ∧ q.1 = sI (x + 1))) := by
  refine wq_for (body := fun r s => fX18_goes_i104 fu (sI a1) r s.1 s.2.1 s.2.2.1 s.2.2.2.1 s.2.2.2.2) (fun j (so : Nat) => (sI low, sI so, sI (j + 1), M, L)) (fun j so => so < 2 ∧ (so = 1 ↔ ∃ e, e < j ∧ e ∈ l ∧ pr A e = low ∧ fl A e = 0)) N ?_ ?_ N 0 0 fu (by omega) (by omega) ⟨by omega, ⟨fun h => by omega, fun ⟨e, h, _⟩ => by omega⟩⟩
  · rintro j so r hj ⟨hso, hP⟩ ih
    show wq (fX18_goes_i104 fu (sI a1) r (sI low) (sI so) (sI (j + 1)) M L) _
    unfold fX18_goes_i104 fX18_goes_b152 fX18_goes_b148 fX18_goes_b153
    obtain ⟨k1, k2, k3, k4, k5, k6⟩ := okp_at hN hk hj
    have hsj := hsd j hj
    rw [hC, if_neg (by rw [sI_lt (by omega) (by omega)]; omega)]
    simp only [mlet]
    rw [sI_1]
    by_cases hso0 : so = 0
    · subst hso0
      have hno : ¬ ∃ e, e < j ∧ e ∈ l ∧ pr A e = low ∧ fl A e = 0 := fun h => by have := hP.mpr h; omega
      have keep0 : ¬ (j ∈ l ∧ pr A j = low ∧ fl A j = 0) → wq (r (sI low, 0, sI (j + 1 + 1), M, L)) (fun q => q.2 = (M, L) ∧ ((q.1 = 0 ∧ ∀ y ∈ l, wt A y ≤ 2 * p) ∨ ∃ x, isBest A l sd p x ∧ q.1 = sI (x + 1))) := by
        intro hn
        refine ih 0 ⟨by omega, ⟨fun h => by omega, ?_⟩⟩
        rintro ⟨e, he, h⟩
        exfalso
        by_cases hh : e = j
        · subst hh; exact hn h
        · exact hno ⟨e, by omega, h⟩
      rw [if_pos (by rfl), mck_s (by omega) (by omega), sI_nn (by omega), hS j hj]
      by_cases hs0 : sd j = 0
      · rw [if_pos (by rw [hs0]; decide)]
        exact keep0 (fun h => by have := (hS0 j hj).mpr h.1; omega)
      · rw [if_neg (by rw [sI_lel (by omega) (by omega)]; omega), mck_s (by omega) (by omega), k2]
        have hjl := (hS0 j hj).mp (by omega)
        by_cases hpl : pr A j = low
        · rw [if_pos (by rw [hpl]), k6, mb3_s]
          by_cases hf0 : fl A j = 0
          · rw [if_pos (by rw [hf0]; rfl)]
            exact ih 1 ⟨by omega, ⟨fun _ => ⟨j, by omega, hjl, hpl, hf0⟩, fun _ => rfl⟩⟩
          · rw [if_neg (by rw [sI_eql (by omega) (by omega)]; exact hf0)]
            exact keep0 (fun h => hf0 h.2.2)
        · rw [if_neg (by rw [sI_eq (by omega) (by omega)]; exact hpl)]
          exact keep0 (fun h => hpl h.2.1)
    · rw [if_neg (by rw [sI_eql (by omega) (by omega)]; exact hso0)]
      obtain ⟨e, he, h⟩ := hP.mp (by omega)
      exact ih 1 ⟨by omega, ⟨fun _ => ⟨e, by omega, h⟩, fun _ => rfl⟩⟩
  · rintro so r ⟨hso, hP⟩
    show wq (fX18_goes_i104 fu (sI a1) r (sI low) (sI so) (sI (N + 1)) M L) _
    unfold fX18_goes_i104
    rw [hC, if_pos (by rw [sI_lt (by omega) (by omega)]; omega)]
    refine m_goes3 hf hN hsd hl hk hC hS hS0 hlow hso ?_ hl0 hl1
    constructor
    · intro h
      obtain ⟨e, _, h1, h2⟩ := hP.mp h
      exact ⟨e, h1, h2⟩
    · rintro ⟨e, h1, h2⟩
      exact hP.mpr ⟨e, hl e h1, h1, h2⟩
theorem m_goes {fu : Nat} {A M : mwM} {L : mwL} {N p i : Nat} {l : List Nat} {sd : Nat → Nat} (hf : 31 ≤ fu) (hN : N ≤ 30) (hi : i < N) (hp : pr A i = p) (hsd : ∀ x, x < N → sd x < 2000000000) (hl : ∀ x ∈ l, x < N) (hk : okp A M N) (hC : M 902 2 = sI N) (hS : ∀ i, i < N → M 916 (i + 1) = sI (sd i)) (hS0 : ∀ i, i < N → (0 < sd i ↔ i ∈ l)) : wq (DX18_goes fu (sI (i + 1)) M L) (fun q => q.2 = (M, L) ∧ ((q.1 = 0 ∧ ∀ y ∈ l, wt A y ≤ 2 * p) ∨ ∃ x, isBest A l sd p x ∧ q.1 = sI (x + 1))) := by
  obtain ⟨i1, i2, i3, i4, i5, i6⟩ := okp_at hN hk hi
  rw [hp] at i2 i3 i4
  refine wq_for (body := fun r s => fX18_goes_i4 fu (sI (i + 1)) r s.1 s.2.1 s.2.2.1 s.2.2.2) (fun j (low : Nat) => (sI low, sI (j + 1), M, L)) (fun j low => low < 256 ∧ (low = 0 → ∀ e, e < j → ¬ (e ∈ l ∧ 2 * p < wt A e)) ∧ (0 < low → ∃ e, e < j ∧ e ∈ l ∧ 2 * p < wt A e ∧ pr A e = low) ∧ ∀ e, e < j → e ∈ l → 2 * p < wt A e → pr A e ≤ low) N ?_ ?_ N 0 0 fu (by omega) (by omega) ⟨by omega, fun _ e h => by omega, fun h => by omega, fun e h => by omega⟩
  · rintro j low r hj ⟨hlow, hP0, hP1, hP2⟩ ih
    show wq (fX18_goes_i4 fu (sI (i + 1)) r (sI low) (sI (j + 1)) M L) _
    unfold fX18_goes_i4 fX18_goes_b64 fX18_goes_b60 fX18_goes_b65 fX18_goes_b91 fX18_goes_b92
    obtain ⟨k1, k2, k3, k4, k5, k6⟩ := okp_at hN hk hj
    have hsj := hsd j hj
    rw [hC, if_neg (by rw [sI_lt (by omega) (by omega)]; omega)]
    simp only [mlet]
    rw [sI_1]
    have no : ¬ (j ∈ l ∧ 2 * p < wt A j) → wq (r (sI low, sI (j + 1 + 1), M, L)) (fun q => q.2 = (M, L) ∧ ((q.1 = 0 ∧ ∀ y ∈ l, wt A y ≤ 2 * p) ∨ ∃ x, isBest A l sd p x ∧ q.1 = sI (x + 1))) := by
      intro hn
      refine ih low ⟨hlow, ?_, ?_, ?_⟩
      · intro hz e he
        by_cases hh : e = j
        · subst hh; exact hn
        · exact hP0 hz e (by omega)
      · intro hz
        obtain ⟨e, he, h⟩ := hP1 hz
        exact ⟨e, by omega, h⟩
      · intro e he h1 h2
        by_cases hh : e = j
        · subst hh; exact absurd ⟨h1, h2⟩ hn
        · exact hP2 e (by omega) h1 h2
    have yes : (j ∈ l ∧ 2 * p < wt A j) → wq (if (1 : Int32) = 0 then r (sI low, sI (j + 1 + 1), M, L) else mck (sI (j + 1)) 201 (if M 903 (sI (j + 1)).toNatClampNeg ≤ sI low then r (sI low, sI (j + 1 + 1), M, L) else mck (sI (j + 1)) 201 (r (M 903 (sI (j + 1)).toNatClampNeg, sI (j + 1 + 1), M, L)))) (fun q => q.2 = (M, L) ∧ ((q.1 = 0 ∧ ∀ y ∈ l, wt A y ≤ 2 * p) ∨ ∃ x, isBest A l sd p x ∧ q.1 = sI (x + 1))) := by
      intro hy
      rw [if_neg (by decide), mck_s (by omega) (by omega), sI_nn (by omega), k2]
      by_cases hc : pr A j ≤ low
      · rw [if_pos (by rw [sI_le (by omega) (by omega)]; exact hc)]
        refine ih low ⟨hlow, ?_, ?_, ?_⟩
        · intro hz; omega
        · intro hz
          obtain ⟨e, he, h⟩ := hP1 hz
          exact ⟨e, by omega, h⟩
        · intro e he h1 h2
          by_cases hh : e = j
          · subst hh; exact hc
          · exact hP2 e (by omega) h1 h2
      · rw [if_neg (by rw [sI_le (by omega) (by omega)]; exact hc), mck_s (by omega) (by omega)]
        refine ih (pr A j) ⟨k4, ?_, ?_, ?_⟩
        · intro hz; omega
        · intro _
          exact ⟨j, by omega, hy.1, hy.2, rfl⟩
        · intro e he h1 h2
          by_cases hh : e = j
          · subst hh; exact Nat.le_refl _
          · have := hP2 e (by omega) h1 h2; omega
    rw [mck_s (by omega) (by omega), sI_nn (by omega), hS j hj]
    by_cases hs0 : sd j = 0
    · rw [if_pos (by rw [hs0]; decide)]
      exact no (fun h => by have := (hS0 j hj).mpr h.1; omega)
    · rw [if_neg (by rw [sI_lel (by omega) (by omega)]; omega), mck_s (by omega) (by omega), mck_s (by omega) (by omega), sI_nn (by omega), k2, i2]
      have hjl := (hS0 j hj).mp (by omega)
      by_cases hpl : p < pr A j
      · rw [if_pos (by rw [sI_lt (by omega) (by omega)]; exact hpl)]
        have := yes ⟨hjl, by rw [wt_pf]; omega⟩
        rw [sI_nn (by omega), k2] at this
        exact this
      · rw [if_neg (by rw [sI_lt (by omega) (by omega)]; exact hpl), mck_s (by omega) (by omega), mck_s (by omega) (by omega)]
        by_cases hpe : pr A j = p
        · rw [if_pos (by rw [hpe]), k6, mb3_s]
          by_cases hf0 : fl A j = 0
          · rw [if_pos (by rw [hf0]; rfl)]
            have := yes ⟨hjl, by rw [wt_pf]; omega⟩
            rw [sI_nn (by omega), k2] at this
            rw [k2]
            exact this
          · rw [if_neg (by rw [sI_eql (by omega) (by omega)]; exact hf0)]
            exact no (fun h => by have := h.2; rw [wt_pf] at this; omega)
        · rw [if_neg (by rw [sI_eq (by omega) (by omega)]; exact hpe)]
          exact no (fun h => by have := h.2; rw [wt_pf] at this; omega)
  · rintro low r ⟨hlow, hP0, hP1, hP2⟩
    show wq (fX18_goes_i4 fu (sI (i + 1)) r (sI low) (sI (N + 1)) M L) _
    unfold fX18_goes_i4
    rw [hC, if_pos (by rw [sI_lt (by omega) (by omega)]; omega)]
    refine m_goes2 hf hN hsd hl hk hC hS hS0 hlow ?_ ?_
    · intro hz y hy
      have := hP0 hz y (hl y hy)
      exact Nat.not_lt.mp (fun h => this ⟨hy, h⟩)
    · intro hz
      obtain ⟨e, _, h⟩ := hP1 hz
      exact ⟨⟨e, h⟩, fun e he h => hP2 e (hl e he) he h⟩
theorem m_entries {fu : Nat} {M : mwM} {L : mwL} {N : Nat} {l : List Nat} {sd : Nat → Nat} (hf : 31 ≤ fu) (hN : N ≤ 30) (hsd : ∀ x, x < N → sd x < 2000000000) (hl : ∀ x ∈ l, x < N) (hnd : l.Nodup) (hC : M 902 2 = sI N) (hS : ∀ i, i < N → M 916 (i + 1) = sI (sd i)) (hS0 : ∀ i, i < N → (0 < sd i ↔ i ∈ l)) : DX18_entries fu M L = some (sI l.length, M, L) := by
  have h := wq_for (body := fun r4 s => fX18_entries_i4 fu r4 s.1 s.2.1 s.2.2.1 s.2.2.2) (Q := fun q => q = (sI l.length, M, L)) (fun j (a : Nat) => (sI a, sI (j + 1), M, L)) (fun j a => a = cnt (fun e => decide (0 < sd e)) j) N ?_ ?_ N 0 0 fu (by omega) (by omega) rfl
  · obtain ⟨q, e, rfl⟩ := h
    exact e
  · intro j a r hj ha ih
    show wq (fX18_entries_i4 fu r (sI a) (sI (j + 1)) M L) _
    unfold fX18_entries_i4 fX18_entries_b28
    have hsj := hsd j hj
    rw [hC, if_neg (by rw [sI_lt (by omega) (by omega)]; omega), mck_s (by omega) (by omega), sI_nn (by omega), hS j hj]
    simp only [mlet]
    rw [sI_1, sI_1]
    by_cases hs0 : sd j = 0
    · rw [if_pos (by rw [hs0]; decide)]
      refine ih a ?_
      show a = cnt _ j + _
      rw [← ha]
      simp [hs0]
    · rw [if_neg (by rw [sI_lel (by omega) (by omega)]; omega)]
      refine ih (a + 1) ?_
      show a + 1 = cnt _ j + _
      rw [← ha]
      have : 0 < sd j := by omega
      simp [this]
  · intro a r ha
    show wq (fX18_entries_i4 fu r (sI a) (sI (N + 1)) M L) _
    unfold fX18_entries_i4
    rw [hC, if_pos (by rw [sI_lt (by omega) (by omega)]; omega)]
    refine wq_some ?_
    rw [ha, cnt_list hnd hl (fun i hi => by simpa using hS0 i hi)]
theorem m_many {fu : Nat} {A M : mwM} {L : mwL} {N : Nat} (hf : 31 ≤ fu) (hN : N ≤ 30) (hk : okp A M N) (hC : M 902 2 = sI N) : ∃ x, DX18_many fu 0 M L = some (x, M, L) := by
  have h := wq_for (body := fun r4 s => fX18_many_i4 fu 0 r4 s.1 s.2.1 s.2.2.1 s.2.2.2) (Q := fun q => q.2 = (M, L)) (fun j (a : Int32) => (a, sI (j + 1), M, L)) (fun _ _ => True) N ?_ ?_ N 0 0 fu (by omega) (by omega) trivial
  · obtain ⟨⟨x, q⟩, e, rfl⟩ := h
    exact ⟨x, e⟩
  · intro j a r hj _ ih
    show wq (fX18_many_i4 fu 0 r a (sI (j + 1)) M L) _
    unfold fX18_many_i4 fX18_many_b28
    obtain ⟨k1, k2, k3, k4, k5, k6⟩ := okp_at hN hk hj
    rw [hC, if_neg (by rw [sI_lt (by omega) (by omega)]; omega), k6, mb3_s]
    simp only [mlet]
    rw [sI_1]
    split
    · exact ih _ trivial
    · exact ih _ trivial
  · intro a r _
    show wq (fX18_many_i4 fu 0 r a (sI (N + 1)) M L) _
    unfold fX18_many_i4
    rw [hC, if_pos (by rw [sI_lt (by omega) (by omega)]; omega)]
    exact wq_some rfl
theorem okp_f {A M M' : mwM} {N : Nat} (h : okp A M N) (h1 : ∀ j, M' 145 j = M 145 j) (h2 : ∀ j, M' 146 j = M 146 j) (h3 : ∀ j, M' 903 j = M 903 j) (h4 : ∀ j, M' 908 j = M 908 j) : okp A M' N := by
  intro i hi
  obtain ⟨p, n, a1, a2, a3, a4, a5, a6, a7⟩ := h i hi
  exact ⟨p, n, a1, a2, a3, a4, a5, by rw [h3, a6], dg_f a7 (fun b _ => h4 _)⟩
theorem m_shoot {fu : Nat} {A M : mwM} {L : mwL} {N i w : Nat} (hf : 31 ≤ fu) (hN : N ≤ 30) (hi : i < N) (hw : w < 2) (hk : okp A M N) (hC : M 902 2 = sI N) : wq (DX18_shoot fu (sI (i + 1)) (sI w) M L) (fun q => q.2 = L ∧ q.1 918 (8 * (i + 1) + 4 * w + 1) = M 902 25 ∧ ∀ a j, ¬ (a = 918 ∧ 8 * (i + 1) + 4 * w ≤ j ∧ j < 8 * (i + 1) + 4 * w + 4) → q.1 a j = M a j) := by
  unfold DX18_shoot
  simp only [mlet]
  rw [sI_lml, sI_lml, sI_add, mck_s (by omega) (by omega), sI_nn (by omega), sI_1, mck_s (by omega) (by omega), sI_nn (by omega)]
  obtain ⟨x, hx⟩ := m_many (fu := fu) (L := L) (M := mset (mset M 918 (8 * (i + 1) + 4 * w) (M 902 24)) 918 (8 * (i + 1) + 4 * w + 1) (mset M 918 (8 * (i + 1) + 4 * w) (M 902 24) 902 25)) hf hN (okp_f hk (fun j => by rw [mset_k (by decide), mset_k (by decide)]) (fun j => by rw [mset_k (by decide), mset_k (by decide)]) (fun j => by rw [mset_k (by decide), mset_k (by decide)]) (fun j => by rw [mset_k (by decide), mset_k (by decide)])) (by rw [mset_k (by decide), mset_k (by decide)]; exact hC)
  rw [hx, mb3_s, sI_adl, mck_s (by omega) (by omega), sI_nn (by omega), mck_s (by omega) (by omega), sI_adl, mck_s (by omega) (by omega), sI_nn (by omega), sI_nn (by omega)]
  refine wq_some ⟨rfl, ?_, ?_⟩
  · simp only []
    rw [mset_j (by omega), mset_j (by omega), mset_s, mset_k (by decide)]
  · intro a j h
    simp only []
    rw [mset_n (by omega), mset_n (by omega), mset_n (by omega), mset_n (by omega)]
/-- what the memory becomes by a code that fails -/
def nxt (M : mwM) (l : List Nat) (sd : Nat → Nat) (p i : Nat) (l' : List Nat) : Prop :=
  (i ∈ l ∧ l' = l) ∨ (i ∉ l ∧ l.length < 8 ∧ l' = l ++ [i]) ∨ (i ∉ l ∧ l.length = 8 ∧ (∀ y ∈ l, wt M y ≤ 2 * p) ∧ l' = l) ∨ (i ∉ l ∧ l.length = 8 ∧ ∃ e, ∃ h : e < l.length, isBest M l sd p (l[e]'h) ∧ l' = l.eraseIdx e ++ [i])
theorem row_app {M M' : mwM} {l : List Nat} {i : Nat} (hM : ∀ e (h : e < l.length), M 153 e = sI (l[e]'h)) (hn : M' 153 l.length = sI i) (hs : ∀ e, e < l.length → M' 153 e = M 153 e) : ∀ e (h : e < (l ++ [i]).length), M' 153 e = sI ((l ++ [i])[e]'h) := by
  intro e h
  rw [List.getElem_append]
  by_cases he : e < l.length
  · rw [dif_pos he, hs e he, hM e he]
  · rw [dif_neg he]
    have : e = l.length := by simp at h; omega
    subst this
    simp [hn]
theorem c_store {fu : Nat} {M : mwM} {L : mwL} {N i p : Nat} {l : List Nat} {sd : Nat → Nat} (hf : 9 ≤ fu) (hN : N ≤ 30) (hi : i < N) (hp : M 145 i = sI p) (hpl : p < 256) (h8 : l.length ≤ 8) (hl : ∀ x ∈ l, x < N) (hs : l.Pairwise (fun x y => sd x < sd y)) (hk : okq M N) (hE : M 139 3 = sI l.length) (hM : ∀ e (h : e < l.length), M 153 e = sI (l[e]'h)) : wq (DX10_store fu (sI i) M L) (fun q => q.2 = L ∧ ∃ l', nxt M l sd p i l' ∧ q.1 139 3 = sI l'.length ∧ (∀ e (h : e < l'.length), q.1 153 e = sI (l'[e]'h)) ∧ (i ∈ l' → q.1 152 i = M 139 5 ∧ (i ∈ l → q.1 151 i = M 151 i) ∧ (i ∉ l → q.1 151 i = M 139 5)) ∧ ∀ a j, a ≠ 153 → ¬ (a = 139 ∧ j = 3) → ¬ (j = i ∧ (a = 151 ∨ a = 152)) → q.1 a j = M a j) := by
  unfold DX10_store
  refine wq_b3 (c_entryOf hf (by omega) h8 (fun x hx => by have := hl x hx; omega) hE hM) ?_
  rintro r M1 L1 ⟨hq, hr⟩
  obtain ⟨rfl, rfl⟩ : M1 = M ∧ L1 = L := by simpa using hq
  dsimp only at hr
  rcases hr with ⟨rfl, hil⟩ | ⟨e, he, rfl, hel⟩
  · rw [if_neg (by decide), hE]
    have app : ∀ (M2 : mwM) (l2 : List Nat), l2.length < 8 → M2 139 3 = sI l2.length → (∀ e (h : e < l2.length), M2 153 e = sI (l2[e]'h)) → (∀ a j, a ≠ 153 → ¬ (a = 139 ∧ j = 3) → M2 a j = M1 a j) → nxt M1 l sd p i (l2 ++ [i]) → wq (fX10_store_b26 fu (sI i) M2 L1) (fun q => q.2 = L1 ∧ ∃ l', nxt M1 l sd p i l' ∧ q.1 139 3 = sI l'.length ∧ (∀ e (h : e < l'.length), q.1 153 e = sI (l'[e]'h)) ∧ (i ∈ l' → q.1 152 i = M1 139 5 ∧ (i ∈ l → q.1 151 i = M1 151 i) ∧ (i ∉ l → q.1 151 i = M1 139 5)) ∧ ∀ a j, a ≠ 153 → ¬ (a = 139 ∧ j = 3) → ¬ (j = i ∧ (a = 151 ∨ a = 152)) → q.1 a j = M1 a j) := by
      intro M2 l2 hl2 hE2 hM2 hfr hnx
      unfold fX10_store_b26 fX10_store_b69
      rw [hE2, if_pos (by rw [sI_ltl (by omega) (by omega)]; exact hl2), mck_s (by omega) (by omega)]
      simp only [mlet]
      rw [sI_nn (by omega), mck_s (by omega) (by omega), sI_nn (by omega), mck_s (by omega) (by omega), mset_k (a := 139) (by decide), hE2, sI_1]
      refine wq_some ⟨rfl, l2 ++ [i], hnx, ?_, ?_, ?_, ?_⟩
      · simp only []
        rw [mset_k (by decide), mset_k (by decide), mset_s]
        simp
      · refine row_app (M := M2) hM2 ?_ ?_
        · simp only []
          rw [mset_k (by decide), mset_k (by decide), mset_k (by decide), mset_s]
        · intro e he
          simp only []
          rw [mset_k (by decide), mset_k (by decide), mset_k (by decide), mset_j (by omega)]
      · intro _
        have h5 : M2 139 5 = M1 139 5 := hfr 139 5 (by decide) (by decide)
        refine ⟨?_, fun h => absurd h hil, fun _ => ?_⟩
        · simp [mset, h5]
        · simp [mset, h5]
      · intro a j h1 h2 h3
        simp only []
        rw [mset_n (by omega), mset_n (by omega), mset_n h2, mset_k h1]
        exact hfr a j h1 h2
    by_cases h7 : l.length < 8
    · rw [if_pos (by rw [sI_ltl (by omega) (by omega)]; exact h7)]
      exact app M1 l h7 hE hM (fun _ _ _ _ => rfl) (Or.inr (Or.inl ⟨hil, h7, rfl⟩))
    · rw [if_neg (by rw [sI_ltl (by omega) (by omega)]; exact h7)]
      refine wq_b3 (c_findLesser hf hN hi hp hpl h8 hl hs hk hE hM) ?_
      rintro r2 M2 L2 ⟨hq2, hr2⟩
      obtain ⟨rfl, rfl⟩ : M2 = M1 ∧ L2 = L1 := by simpa using hq2
      dsimp only at hr2
      rcases hr2 with ⟨rfl, hno⟩ | ⟨e, he, rfl, hb⟩
      · have hrem : DX10_removeEntry fu (-1) M2 L2 = some (M2, L2) := by
          unfold DX10_removeEntry
          rw [if_neg (by decide)]
        rw [hrem, mb2_s]
        unfold fX10_store_b26
        rw [hE, if_neg (by rw [sI_ltl (by omega) (by omega)]; exact h7)]
        refine wq_some ⟨rfl, l, Or.inr (Or.inr (Or.inl ⟨hil, by omega, hno, rfl⟩)), hE, hM, fun h => absurd h hil, fun _ _ _ _ _ => rfl⟩
      · refine wq_b2 (c_remove hf h8 he hE hM) ?_
        rintro M3 L3 ⟨hL3, hE3, hM3, hfr3⟩
        dsimp only at hL3 hE3 hM3 hfr3
        subst hL3
        have hlen : (l.eraseIdx e).length = l.length - 1 := List.length_eraseIdx_of_lt he
        exact app M3 (l.eraseIdx e) (by omega) hE3 hM3 hfr3 (Or.inr (Or.inr (Or.inr ⟨hil, by omega, e, he, hb, rfl⟩)))
  · rw [if_pos (by rw [sI_lle (by omega) (by omega)]; omega)]
    have hil : i ∈ l := hel ▸ List.getElem_mem he
    unfold fX10_store_b69
    rw [mck_s (by omega) (by omega), sI_nn (by omega)]
    simp only [mlet]
    refine wq_some ⟨rfl, l, Or.inl ⟨hil, rfl⟩, ?_, ?_, ?_, ?_⟩
    · simp only []
      rw [mset_k (by decide)]; exact hE
    · intro e he
      simp only []
      rw [mset_k (by decide)]; exact hM e he
    · intro _
      refine ⟨by simp [mset], fun _ => by simp [mset], fun h => absurd hil h⟩
    · intro a j h1 h2 h3
      simp only []
      rw [mset_n (by omega)]
theorem nxt_mem {M : mwM} {l l' : List Nat} {sd : Nat → Nat} {p i N : Nat} (hi : i < N) (hl : ∀ x ∈ l, x < N) (h : nxt M l sd p i l') : (∀ x ∈ l', x < N) ∧ (l.length ≤ 8 → l'.length ≤ 8) := by
  rcases h with ⟨_, rfl⟩ | ⟨_, h2, rfl⟩ | ⟨_, _, _, rfl⟩ | ⟨_, h2, e, he, _, rfl⟩
  · exact ⟨hl, fun h => h⟩
  · refine ⟨?_, fun _ => by simp; omega⟩
    all_goals (try dsimp only)
    intro x hx
    rw [List.mem_append] at hx
    rcases hx with hx | hx
    · exact hl x hx
    · simp at hx; omega
  · exact ⟨hl, fun h => h⟩
  · refine ⟨?_, fun _ => by simp [List.length_eraseIdx_of_lt he]; omega⟩
    all_goals (try dsimp only)
    intro x hx
    rw [List.mem_append] at hx
    rcases hx with hx | hx
    · exact hl x (List.mem_of_mem_eraseIdx hx)
    · simp at hx; omega
/-- the reference's last steps of storing a new entry -/
theorem m_put {fu : Nat} {A M : mwM} {L : mwL} {N i t : Nat} (hf : 31 ≤ fu) (hN : N ≤ 30) (hi : i < N) (ht : t < 1000000000) (hk : okp A M N) (hC : M 902 2 = sI N) (hT : M 902 19 = sI t) : wq (fX18_store_b107 fu (sI (i + 1)) M L) (fun q => q.2 = L ∧ q.1 902 19 = sI (t + 1) ∧ q.1 916 (i + 1) = sI (t + 1) ∧ q.1 918 (8 * (i + 1) + 1) = M 902 25 ∧ q.1 918 (8 * (i + 1) + 5) = M 902 25 ∧ (∀ j, j ≠ i + 1 → q.1 916 j = M 916 j) ∧ (∀ j, ¬ (8 * (i + 1) ≤ j ∧ j < 8 * (i + 1) + 8) → q.1 918 j = M 918 j) ∧ ∀ a j, a ≠ 916 → a ≠ 917 → a ≠ 918 → ¬ (a = 902 ∧ j = 19) → q.1 a j = M a j) := by
  unfold fX18_store_b107
  simp only [mlet]
  rw [mck_s (by omega) (by omega), sI_nn (by omega), mck_s (by omega) (by omega), hT, sI_1]
  rw [show mset M 902 19 (sI (t + 1)) 902 19 = sI (t + 1) from mset_s]
  have hk2 : okp A (mset (mset (mset M 902 19 (sI (t + 1))) 916 (i + 1) (sI (t + 1))) 917 (i + 1) 1) N := okp_f hk (fun j => by rw [mset_k (by decide), mset_k (by decide), mset_k (by decide)]) (fun j => by rw [mset_k (by decide), mset_k (by decide), mset_k (by decide)]) (fun j => by rw [mset_k (by decide), mset_k (by decide), mset_k (by decide)]) (fun j => by rw [mset_k (by decide), mset_k (by decide), mset_k (by decide)])
  refine wq_b2 (m_shoot (w := 0) hf hN hi (by omega) hk2 (by rw [mset_k (by decide), mset_k (by decide), mset_j (by decide)]; exact hC)) ?_
  rintro M1 L1 ⟨rfl, a1, a2⟩
  dsimp only at a1 a2
  refine wq_b2 (m_shoot (w := 1) hf hN hi (by omega) (okp_f hk2 (fun j => a2 _ _ (by omega)) (fun j => a2 _ _ (by omega)) (fun j => a2 _ _ (by omega)) (fun j => a2 _ _ (by omega))) (by rw [a2 _ _ (by omega), mset_k (by decide), mset_k (by decide), mset_j (by decide)]; exact hC)) ?_
  rintro M2 L2 ⟨rfl, b1, b2⟩
  dsimp only at b1 b2
  refine wq_some ⟨rfl, ?_, ?_, ?_, ?_, ?_, ?_, ?_⟩
  all_goals (try dsimp only)
  · try dsimp only
    rw [b2 _ _ (by omega), a2 _ _ (by omega), mset_k (by decide), mset_k (by decide), mset_s]
  · try dsimp only
    rw [b2 _ _ (by omega), a2 _ _ (by omega), mset_k (by decide), mset_s]
  · try dsimp only
    rw [b2 _ _ (by omega), show 8 * (i + 1) + 1 = 8 * (i + 1) + 4 * 0 + 1 by omega, a1, mset_k (by decide), mset_k (by decide), mset_j (by decide)]
  · try dsimp only
    rw [show 8 * (i + 1) + 5 = 8 * (i + 1) + 4 * 1 + 1 by omega, b1, a2 _ _ (by omega), mset_k (by decide), mset_k (by decide), mset_j (by decide)]
  · intro j hj
    try dsimp only
    rw [b2 _ _ (by omega), a2 _ _ (by omega), mset_k (by decide), mset_j hj, mset_k (by decide)]
  · intro j hj
    try dsimp only
    rw [b2 _ _ (by omega), a2 _ _ (by omega), mset_k (by decide), mset_k (by decide), mset_k (by decide)]
  · intro a j h1 h2 h3 h4
    try dsimp only
    rw [b2 _ _ (by omega), a2 _ _ (by omega), mset_k h2, mset_k h1, mset_n h4]
theorem sd_upd {sd : Nat → Nat} {l : List Nat} {N i t : Nat} (hs : l.Pairwise (fun x y => sd x < sd y)) (hl : ∀ x ∈ l, x < N) (hil : i ∉ l) (ht : ∀ x, x < N → sd x ≤ t) : (l ++ [i]).Pairwise (fun x y => (if x = i then t + 1 else sd x) < (if y = i then t + 1 else sd y)) := by
  rw [List.pairwise_append]
  refine ⟨?_, by simp, ?_⟩
  all_goals (try dsimp only)
  · rw [List.pairwise_iff_getElem] at hs ⊢
    intro a b ha hb hab
    have h1 : l[a] ≠ i := fun h => hil (h ▸ List.getElem_mem ha)
    have h2 : l[b] ≠ i := fun h => hil (h ▸ List.getElem_mem hb)
    rw [if_neg h1, if_neg h2]
    exact hs a b ha hb hab
  · intro x hx y hy
    have h1 : x ≠ i := fun h => hil (h ▸ hx)
    have h2 : y = i := by simpa using hy
    rw [if_neg h1, if_pos h2]
    have := ht x (hl x hx)
    omega
abbrev stP (A : mwM) (N i p t : Nat) (l : List Nat) (sd : Nat → Nat) (M q : mwM) : Prop := ∃ (l' : List Nat) (sd' : Nat → Nat) (t' G' : Nat), nxt A l sd p i l' ∧ t' ≤ t + 1 ∧ q 902 19 = sI t' ∧ (∀ x, x < N → sd' x ≤ t') ∧ q 902 20 = sI G' ∧ G' ≤ 500 ∧ (∀ x, x < N → q 916 (x + 1) = sI (sd' x)) ∧ (∀ x, x < N → (0 < sd' x ↔ x ∈ l')) ∧ l'.Pairwise (fun x y => sd' x < sd' y) ∧ (i ∈ l' → q 918 (8 * (i + 1) + 5) = M 902 25 ∧ (i ∈ l → q 918 (8 * (i + 1) + 1) = M 918 (8 * (i + 1) + 1)) ∧ (i ∉ l → q 918 (8 * (i + 1) + 1) = M 902 25)) ∧ (∀ j, ¬ (8 * (i + 1) ≤ j ∧ j < 8 * (i + 1) + 8) → q 918 j = M 918 j)
abbrev stF (M q : mwM) : Prop := ∀ a j, a ≠ 916 → a ≠ 917 → a ≠ 918 → a ≠ 919 → ¬ (a = 902 ∧ (j = 19 ∨ j = 20)) → q a j = M a j
theorem m_store {fu : Nat} {A M : mwM} {L : mwL} {N i p t G : Nat} {l : List Nat} {sd : Nat → Nat} (hf : 31 ≤ fu) (hN : N ≤ 30) (hi : i < N) (hp : pr A i = p) (h8 : l.length ≤ 8) (ht : t < 1000000000) (hl : ∀ x ∈ l, x < N) (hs : l.Pairwise (fun x y => sd x < sd y)) (hk : okp A M N) (hC : M 902 2 = sI N) (hR : M 902 1 = 8) (hT : M 902 19 = sI t) (hT2 : ∀ x, x < N → sd x ≤ t) (hG : M 902 20 = sI G) (hG2 : G ≤ 500) (hS : ∀ i, i < N → M 916 (i + 1) = sI (sd i)) (hS0 : ∀ i, i < N → (0 < sd i ↔ i ∈ l)) : wq (DX18_store fu (sI (i + 1)) M L) (fun q => q.2 = L ∧ stP A N i p t l sd M q.1 ∧ stF M q.1) := by
  have hnd := oke_nodup hs
  have hsd : ∀ x, x < N → sd x < 2000000000 := fun x hx => by have := hT2 x hx; omega
  have hsi := hsd i hi
  unfold DX18_store
  rw [mck_s (by omega) (by omega), sI_nn (by omega), hS i hi]
  by_cases hz : sd i = 0
  · have hil : i ∉ l := fun h => by have := (hS0 i hi).mpr h; omega
    rw [if_pos (by rw [hz]; decide), m_entries hf hN hsd hl hnd hC hS hS0, mb3_s, hR]
    have app : ∀ (M2 : mwM) (l2 : List Nat) (sd2 : Nat → Nat) (G2 : Nat), okp A M2 N → M2 902 2 = sI N → M2 902 19 = sI t → M2 902 20 = sI G2 → G2 ≤ 500 → M2 902 25 = M 902 25 → (∀ x ∈ l2, x < N) → l2.Pairwise (fun x y => sd2 x < sd2 y) → i ∉ l2 → (∀ x, x < N → sd2 x ≤ t) → (∀ x, x < N → M2 916 (x + 1) = sI (sd2 x)) → (∀ x, x < N → x ≠ i → (0 < sd2 x ↔ x ∈ l2)) → (∀ j, M2 918 j = M 918 j) → (∀ a j, a ≠ 916 → a ≠ 917 → a ≠ 918 → a ≠ 919 → ¬ (a = 902 ∧ (j = 19 ∨ j = 20)) → M2 a j = M a j) → nxt A l sd p i (l2 ++ [i]) → wq (fX18_store_b107 fu (sI (i + 1)) M2 L) (fun q => q.2 = L ∧ stP A N i p t l sd M q.1 ∧ stF M q.1) := by
      intro M2 l2 sd2 G2 g1 g2 g3 g4 g5 g6 g7 g8 g9 g10 g11 g12 g13 g14 g15
      refine wq_mono (m_put hf hN hi ht g1 g2 g3) ?_
      rintro ⟨M3, L3⟩ ⟨e1, e2, e3, e4, e5, e6, e7, e8⟩
      dsimp only at e1 e2 e3 e4 e5 e6 e7 e8
      subst e1
      refine ⟨rfl, ⟨l2 ++ [i], (fun x => if x = i then t + 1 else sd2 x), t + 1, G2, g15, Nat.le_refl _, e2, ?_, ?_, g5, ?_, ?_, sd_upd g8 g7 g9 g10, ?_, ?_⟩, ?_⟩
      all_goals (try dsimp only)
      · intro x hx
        by_cases hxi : x = i
        · rw [if_pos hxi]; exact Nat.le_refl _
        · rw [if_neg hxi]; have := g10 x hx; omega
      · rw [e8 _ _ (by decide) (by decide) (by decide) (by decide)]; exact g4
      · intro x hx
        by_cases hxi : x = i
        · rw [if_pos hxi, hxi]; exact e3
        · rw [if_neg hxi, e6 _ (by omega)]; exact g11 x hx
      · intro x hx
        rw [List.mem_append]
        by_cases hxi : x = i
        · rw [if_pos hxi]
          exact ⟨fun _ => Or.inr (by simp [hxi]), fun _ => by omega⟩
        · rw [if_neg hxi, g12 x hx hxi]
          exact ⟨fun h => Or.inl h, fun h => by rcases h with h | h; exact h; simp at h; exact absurd h hxi⟩
      · intro _
        exact ⟨by rw [e5, g6], fun h => absurd h hil, fun _ => by rw [e4, g6]⟩
      · intro j hj
        rw [e7 j hj, g13 j]
      · intro a j h1 h2 h3 h4 h5
        rw [e8 a j h1 h2 h3 (fun q => h5 ⟨q.1, Or.inl q.2⟩)]
        exact g14 a j h1 h2 h3 h4 h5
    by_cases h7 : l.length < 8
    · rw [if_pos (by rw [sI_ltl (by omega) (by omega)]; exact h7)]
      exact app M l sd G hk hC hT hG hG2 rfl hl hs hil hT2 hS (fun x hx _ => hS0 x hx) (fun _ => rfl) (fun _ _ _ _ _ _ _ => rfl) (Or.inr (Or.inl ⟨hil, h7, rfl⟩))
    · rw [if_neg (by rw [sI_ltl (by omega) (by omega)]; exact h7)]
      refine wq_b3 (m_goes hf hN hi hp hsd hl hk hC hS hS0) ?_
      rintro r M1 L1 ⟨hq, hr⟩
      obtain ⟨rfl, rfl⟩ : M1 = M ∧ L1 = L := by simpa using hq
      dsimp only at hr
      rcases hr with ⟨rfl, hno⟩ | ⟨x, hb, rfl⟩
      · rw [if_pos rfl]
        refine wq_some ⟨rfl, ⟨l, sd, t, G, Or.inr (Or.inr (Or.inl ⟨hil, by omega, hno, rfl⟩)), by omega, hT, hT2, hG, hG2, hS, hS0, hs, fun h => absurd h hil, fun _ _ => rfl⟩, fun _ _ _ _ _ _ _ => rfl⟩
      · have hxN := hl x hb.1
        have hxi : x ≠ i := fun h => hil (h ▸ hb.1)
        obtain ⟨e, he, hex⟩ := List.getElem_of_mem hb.1
        rw [if_neg (by rw [sI_eql (by omega) (by omega)]; omega), mck_s (by omega) (by omega), sI_nn (by omega)]
        simp only [mlet]
        have hmem : ∀ y, y ∈ l.eraseIdx e ↔ (y ∈ l ∧ y ≠ x) := by
          intro y
          have hsg := List.pairwise_iff_getElem.mp hs
          rw [List.mem_eraseIdx_iff_getElem]
          constructor
          · rintro ⟨k, hk1, hk2, hk3⟩
            refine ⟨hk3 ▸ List.getElem_mem hk1, ?_⟩
            all_goals (try dsimp only)
            intro hyx
            rcases Nat.lt_trichotomy k e with h | h | h
            · have := hsg k e hk1 he h
              rw [hk3, hex, hyx] at this
              omega
            · exact hk2 h
            · have := hsg e k he hk1 h
              rw [hk3, hex, hyx] at this
              omega
          · rintro ⟨hy, hyx⟩
            obtain ⟨k, hk1, hk3⟩ := List.getElem_of_mem hy
            refine ⟨k, hk1, ?_, hk3⟩
            all_goals (try dsimp only)
            intro hke
            subst hke
            exact hyx (hk3 ▸ hex)
        have hs2 : (l.eraseIdx e).Pairwise (fun a b => (if a = x then 0 else sd a) < (if b = x then 0 else sd b)) := by
          refine List.Pairwise.imp_of_mem ?_ (List.Pairwise.sublist (List.eraseIdx_sublist _ _) hs)
          intro a b ha hb' hab
          rw [if_neg ((hmem a).mp ha).2, if_neg ((hmem b).mp hb').2]
          exact hab
        have step : ∀ (M2 : mwM) (G2 : Nat), M2 902 20 = sI G2 → G2 ≤ 500 → (∀ a j, a ≠ 919 → ¬ (a = 902 ∧ j = 20) → M2 a j = mset M1 916 (x + 1) 0 a j) → wq (fX18_store_b107 fu (sI (i + 1)) M2 L1) (fun q => q.2 = L1 ∧ stP A N i p t l sd M1 q.1 ∧ stF M1 q.1) := by
          intro M2 G2 f1 f2 f3
          have f4 : ∀ a j, a ≠ 919 → a ≠ 916 → ¬ (a = 902 ∧ j = 20) → M2 a j = M1 a j := fun a j h1 h2 h3 => by rw [f3 a j h1 h3, mset_k h2]
          refine app M2 (l.eraseIdx e) (fun y => if y = x then 0 else sd y) G2 (okp_f hk (fun j => f4 _ _ (by omega) (by omega) (by omega)) (fun j => f4 _ _ (by omega) (by omega) (by omega)) (fun j => f4 _ _ (by omega) (by omega) (by omega)) (fun j => f4 _ _ (by omega) (by omega) (by omega))) (by rw [f4 _ _ (by omega) (by omega) (by omega)]; exact hC) (by rw [f4 _ _ (by omega) (by omega) (by omega)]; exact hT) f1 f2 (f4 _ _ (by omega) (by omega) (by omega)) (fun y hy => hl y ((hmem y).mp hy).1) hs2 (fun h => hil ((hmem i).mp h).1) ?_ ?_ ?_ (fun j => f4 _ _ (by omega) (by omega) (by omega)) ?_ (Or.inr (Or.inr (Or.inr ⟨hil, by omega, e, he, hex ▸ hb, rfl⟩)))
          · intro y hy
            by_cases h : y = x
            · rw [if_pos h]; omega
            · rw [if_neg h]; exact hT2 y hy
          · intro y hy
            rw [f3 _ _ (by omega) (by omega)]
            by_cases h : y = x
            · rw [if_pos h, h, mset_s]; rfl
            · rw [if_neg h, mset_j (by omega)]; exact hS y hy
          · intro y hy hyi
            rw [hmem]
            by_cases h : y = x
            · rw [if_pos h]
              exact ⟨fun q => by omega, fun q => absurd h q.2⟩
            · rw [if_neg h, hS0 y hy]
              exact ⟨fun q => ⟨q, h⟩, fun q => q.1⟩
          · intro a j h1 _ _ h4 h5
            exact f4 a j h4 h1 (fun q => h5 ⟨q.1, Or.inr q.2⟩)
        have hG3 : mset M1 916 (x + 1) 0 902 20 = sI G := by rw [mset_k (by decide)]; exact hG
        rw [hG3]
        by_cases h500 : 500 ≤ G
        · rw [if_pos (by rw [sI_lle (by omega) (by omega)]; exact h500)]
          exact step _ G hG3 hG2 (fun _ _ _ _ => rfl)
        · rw [if_neg (by rw [sI_lle (by omega) (by omega)]; exact h500), mck_s (by omega) (by omega), sI_nn (by omega)]
          refine step _ (G + 1) ?_ (by omega) ?_
          · rw [mset_s, mset_k (by decide), hG3, sI_1]
          · intro a j h1 h2
            rw [mset_n h2, mset_k h1]
  · have hil : i ∈ l := (hS0 i hi).mp (by omega)
    rw [if_neg (by rw [sI_lel (by omega) (by omega)]; omega), mck_s (by omega) (by omega)]
    have fin : ∀ y, wq (fX18_store_b40 fu (sI (i + 1)) y M L) (fun q => q.2 = L ∧ stP A N i p t l sd M q.1 ∧ stF M q.1) := by
      intro y
      unfold fX18_store_b40
      rw [mck_s (by omega) (by omega), sI_nn (by omega)]
      simp only [mlet]
      refine wq_b2 (m_shoot (M := mset M 917 (i + 1) y) (w := 1) hf hN hi (by omega) (okp_f hk (fun j => by rw [mset_k (by decide)]) (fun j => by rw [mset_k (by decide)]) (fun j => by rw [mset_k (by decide)]) (fun j => by rw [mset_k (by decide)])) (by rw [mset_k (by decide)]; exact hC)) ?_
      rintro M2 L2 ⟨rfl, b1, b2⟩
      dsimp only at b1 b2
      refine wq_some ⟨rfl, ⟨l, sd, t, G, Or.inl ⟨hil, rfl⟩, by omega, ?_, hT2, ?_, hG2, ?_, hS0, hs, ?_, ?_⟩, ?_⟩
      all_goals (try dsimp only)
      · try dsimp only
        rw [b2 _ _ (by omega), mset_k (by decide)]; exact hT
      · try dsimp only
        rw [b2 _ _ (by omega), mset_k (by decide)]; exact hG
      · intro x hx
        try dsimp only
        rw [b2 _ _ (by omega), mset_k (by decide)]; exact hS x hx
      · intro _
        refine ⟨?_, fun _ => ?_, fun h => absurd hil h⟩
        all_goals (try dsimp only)
        · try dsimp only
          rw [show 8 * (i + 1) + 5 = 8 * (i + 1) + 4 * 1 + 1 by omega, b1, mset_k (by decide)]
        · try dsimp only
          rw [b2 _ _ (by omega), mset_k (by decide)]
      · intro j hj
        try dsimp only
        rw [b2 _ _ (by omega), mset_k (by decide)]
      · intro a j _ h2 h3 _ _
        try dsimp only
        rw [b2 _ _ (by omega), mset_k h2]
    split
    · exact fin _
    · rw [mck_s (by omega) (by omega)]
      exact fin _
theorem nxt_uni {M : mwM} {l l1 l2 : List Nat} {sd : Nat → Nat} {p i : Nat} (hs : l.Pairwise (fun x y => sd x < sd y)) (h1 : nxt M l sd p i l1) (h2 : nxt M l sd p i l2) : l1 = l2 := by
  rcases h1 with ⟨a, rfl⟩ | ⟨a, b, rfl⟩ | ⟨a, b, c, rfl⟩ | ⟨a, b, e, he, c, rfl⟩ <;> rcases h2 with ⟨a', rfl⟩ | ⟨a', b', rfl⟩ | ⟨a', b', c', rfl⟩ | ⟨a', b', e', he', c', rfl⟩
  all_goals first | rfl | exact absurd a a' | exact absurd a' a | (exfalso; omega) | skip
  · exfalso
    have := c _ c'.1
    have := c'.2.1
    omega
  · exfalso
    have := c' _ c.1
    have := c.2.1
    omega
  · have hb := isBest_uni hs c c'
    have hsg := List.pairwise_iff_getElem.mp hs
    have hee : e = e' := by
      rcases Nat.lt_trichotomy e e' with h | h | h
      · have h3 := hsg e e' he he' h; rw [hb] at h3; omega
      · exact h
      · have h3 := hsg e' e he' he h; rw [hb] at h3; omega
    subst hee
    rfl
theorem wt_congr {M M' : mwM} (h1 : ∀ j, M' 145 j = M 145 j) (h2 : ∀ j, M' 146 j = M 146 j) (y : Nat) : wt M' y = wt M y := by
  unfold wt
  rw [h1, h2]
theorem nxt_congr {M M' : mwM} {l l' : List Nat} {sd : Nat → Nat} {p i : Nat} (h1 : ∀ j, M' 145 j = M 145 j) (h2 : ∀ j, M' 146 j = M 146 j) (h : nxt M' l sd p i l') : nxt M l sd p i l' := by
  have hw := wt_congr h1 h2
  unfold nxt isBest at h ⊢
  simpa only [hw] using h
/-- a counter from -128 on -/
def sk (k : Nat) : Int32 := sI k - 128
/-- one code's rows, on both sides -/
def cc (M : mwM) (i n p t a g k : Nat) : Prop := M 145 i = sI p ∧ M 146 i = sI n ∧ M 147 i = sk k ∧ M 148 i = sI t ∧ M 149 i = sI a ∧ M 150 i = sI g
def cm (M : mwM) (i n p t a g k : Nat) : Prop := M 903 (i + 1) = sI p ∧ dg M (i + 1) n ∧ M 907 (i + 1) = sk k ∧ M 909 (i + 1) = sI t ∧ M 910 (i + 1) = sI a ∧ M 911 (i + 1) = sI g ∧ M 904 (i + 1) = 64 ∧ M 905 (i + 1) = 127 ∧ M 906 (i + 1) = 0
def rg (n p t a g k : Nat) : Prop := n < 256 ∧ 1 ≤ p ∧ p < 256 ∧ t < 256 ∧ a < 40 ∧ g < 256 ∧ k < 256
def okc (A M : mwM) (i : Nat) : Prop := ∃ n p t a g k, rg n p t a g k ∧ cc A i n p t a g k ∧ cm M i n p t a g k
/-- what a failed test makes of the number of trips, and of the status -/
def tN (n t : Nat) : Nat := if n / 2 % 2 = 0 then (if t < 255 then t + 1 else t) else t
def fN (n t p : Nat) : Nat := sb (sb (sb (sb (if t < 2 then sb (sb n 4 0) 6 0 else if 64 < p then sb (sb (sb n 4 0) 6 0) 3 1 else sb (sb (sb (sb n 4 0) 6 0) 3 1) 7 1) 1 1) 2 1) 5 1) 0 1
theorem fN_a : ∀ n, n < 256 → ((((sI n &&& (-81)) ||| 1) ||| 2) ||| 4) ||| 32 = sI (sb (sb (sb (sb (sb (sb n 4 0) 6 0) 1 1) 2 1) 5 1) 0 1) := by decide +kernel
theorem fN_b : ∀ n, n < 256 → (((((sI n &&& (-81)) ||| 8) ||| 1) ||| 2) ||| 4) ||| 32 = sI (sb (sb (sb (sb (sb (sb (sb n 4 0) 6 0) 3 1) 1 1) 2 1) 5 1) 0 1) := by decide +kernel
theorem fN_c : ∀ n, n < 256 → (((((sI n &&& (-81)) ||| 136) ||| 1) ||| 2) ||| 4) ||| 32 = sI (sb (sb (sb (sb (sb (sb (sb (sb n 4 0) 6 0) 3 1) 7 1) 1 1) 2 1) 5 1) 0 1) := by decide +kernel
theorem fN_1 : ∀ n, n < 256 → (sI n &&& 1) = sI (n % 2) := by decide +kernel
theorem fN_2 : ∀ n, n < 256 → (sI n &&& 2) = sI (n / 2 % 2 * 2) := by decide +kernel
theorem tN_lt {n t : Nat} (h : t < 256) : tN n t < 256 := by unfold tN; split <;> (try split) <;> omega
theorem fN_lt {n t p : Nat} (h : n < 256) : fN n t p < 256 := by
  unfold fN
  have k : ∀ m b v, m < 256 → b < 8 → v < 2 → sb m b v < 256 := fun m b v hm hb hv => sb_lt m hm b hb v hv
  have h1 := k _ 6 0 (k _ 4 0 h (by omega) (by omega)) (by omega) (by omega)
  have h2 := k _ 3 1 h1 (by omega) (by omega)
  have h3 := k _ 7 1 h2 (by omega) (by omega)
  have h4 : (if t < 2 then sb (sb n 4 0) 6 0 else if 64 < p then sb (sb (sb n 4 0) 6 0) 3 1 else sb (sb (sb (sb n 4 0) 6 0) 3 1) 7 1) < 256 := by
    split
    · exact h1
    · split
      · exact h2
      · exact h3
  exact k _ 0 1 (k _ 5 1 (k _ 2 1 (k _ 1 1 h4 (by omega) (by omega)) (by omega) (by omega)) (by omega) (by omega)) (by omega) (by omega)
/-- the class: a failed test -/
abbrev tfP (i n p t k : Nat) (l : List Nat) (sd : Nat → Nat) (M q : mwM) : Prop := cc q i (fN n (tN n t) p) p (tN n t) 0 0 k ∧ (∃ l', (n % 2 = 0 → nxt q l sd p i l' ∧ (i ∈ l' → q 152 i = M 139 5 ∧ (i ∈ l → q 151 i = M 151 i) ∧ (i ∉ l → q 151 i = M 139 5))) ∧ (n % 2 ≠ 0 → l' = l ∧ q 152 i = M 152 i ∧ q 151 i = M 151 i) ∧ q 139 3 = sI l'.length ∧ (∀ e (h : e < l'.length), q 153 e = sI (l'[e]'h))) ∧ ∀ b j, b ≠ 153 → ¬ (b = 139 ∧ j = 3) → ¬ (j = i ∧ (b = 146 ∨ b = 148 ∨ b = 149 ∨ b = 150 ∨ b = 151 ∨ b = 152)) → q b j = M b j
theorem c_testFailed {fu : Nat} {M : mwM} {L : mwL} {N i n p t a g k : Nat} {l : List Nat} {sd : Nat → Nat} (hf : 9 ≤ fu) (hN : N ≤ 30) (hi : i < N) (hr : rg n p t a g k) (hc : cc M i n p t a g k) (h8 : l.length ≤ 8) (hl : ∀ x ∈ l, x < N) (hs : l.Pairwise (fun x y => sd x < sd y)) (hk : okq M N) (hE : M 139 3 = sI l.length) (hM : ∀ e (h : e < l.length), M 153 e = sI (l[e]'h)) : wq (DX10_testFailed fu (sI i) M L) (fun q => q.2 = L ∧ tfP i n p t k l sd M q.1) := by
  obtain ⟨r1, r2, r3, r4, r5, r6, r7⟩ := hr
  obtain ⟨c1, c2, c3, c4, c5, c6⟩ := hc
  have ht2 := tN_lt (n := n) r4
  -- behind the number of trips
  have tail : ∀ (M1 : mwM) (v3 : Nat), v3 = n % 2 → M1 148 i = sI (tN n t) → (∀ b j, ¬ (b = 148 ∧ j = i) → M1 b j = M b j) → wq (fX10_testFailed_b53 fu (sI i) (sI n) (sI v3) M1 L) (fun q => q.2 = L ∧ tfP i n p t k l sd M q.1) := by
    intro M1 v3 hv3 m1 m2
    have fin : ∀ (x : Int32), (((x ||| 1) ||| 2) ||| 4) ||| 32 = sI (fN n (tN n t) p) → wq (fX10_testFailed_b95 fu (sI i) x (sI v3) M1 L) (fun q => q.2 = L ∧ tfP i n p t k l sd M q.1) := by
      intro x hx
      have hfn := fN_lt (n := n) (t := tN n t) (p := p) r1
      unfold fX10_testFailed_b95 fX10_testFailed_b142
      simp (disch := omega) only [mlet, mck_s, sI_nn]
      rw [hx]
      generalize hM2 : mset (mset (mset M1 146 i (sI (fN n (tN n t) p))) 149 i 0) 150 i 0 = M2
      have f0 : ∀ b j, ¬ (j = i ∧ (b = 146 ∨ b = 148 ∨ b = 149 ∨ b = 150)) → M2 b j = M b j := by
        intro b j h
        rw [← hM2, mset_n (by omega), mset_n (by omega), mset_n (by omega), m2 b j (by omega)]
      have c2' : cc M2 i (fN n (tN n t) p) p (tN n t) 0 0 k := by
        refine ⟨?_, ?_, ?_, ?_, ?_, ?_⟩
        · rw [f0 _ _ (by omega)]; exact c1
        · rw [← hM2, mset_k (by decide), mset_k (by decide), mset_s]
        · rw [f0 _ _ (by omega)]; exact c3
        · rw [← hM2, mset_k (by decide), mset_k (by decide), mset_k (by decide), m1]
        · rw [← hM2, mset_k (by decide), mset_s]; rfl
        · rw [← hM2, mset_s]; rfl
      by_cases hn0 : n % 2 = 0
      · rw [if_pos (by rw [hv3, hn0]; rfl)]
        have hk2 : okq M2 N := by
          intro x hx
          by_cases hxi : x = i
          · subst hxi
            exact ⟨p, fN n (tN n t) p, r3, hfn, c2'.1, c2'.2.1⟩
          · obtain ⟨p', n', q1, q2, q3, q4⟩ := hk x hx
            exact ⟨p', n', q1, q2, by rw [f0 _ _ (by omega)]; exact q3, by rw [f0 _ _ (by omega)]; exact q4⟩
        refine wq_b2 (c_store hf hN hi c2'.1 r3 h8 hl hs hk2 (by rw [f0 _ _ (by omega)]; exact hE) (fun e he => by rw [f0 _ _ (by omega)]; exact hM e he)) ?_
        rintro M3 L3 ⟨rfl, l', g1, g2, g3, g4, g5⟩
        dsimp only at g2 g3 g4 g5
        refine wq_some ⟨rfl, ?_, ⟨l', ?_, fun h => absurd hn0 h, g2, g3⟩, ?_⟩
        · obtain ⟨d1, d2, d3, d4, d5, d6⟩ := c2'
          exact ⟨by dsimp only; rw [g5 _ _ (by omega) (by omega) (by omega), d1], by dsimp only; rw [g5 _ _ (by omega) (by omega) (by omega), d2], by dsimp only; rw [g5 _ _ (by omega) (by omega) (by omega), d3], by dsimp only; rw [g5 _ _ (by omega) (by omega) (by omega), d4], by dsimp only; rw [g5 _ _ (by omega) (by omega) (by omega), d5], by dsimp only; rw [g5 _ _ (by omega) (by omega) (by omega), d6]⟩
        · intro _
          refine ⟨nxt_congr (M := M3) (M' := M2) (fun j => (g5 _ _ (by omega) (by omega) (by omega)).symm) (fun j => (g5 _ _ (by omega) (by omega) (by omega)).symm) g1, ?_⟩
          intro hil
          obtain ⟨e1, e2, e3⟩ := g4 hil
          exact ⟨e1.trans (f0 _ _ (by omega)), fun h => (e2 h).trans (f0 _ _ (by omega)), fun h => (e3 h).trans (f0 _ _ (by omega))⟩
        · intro b j h1 h2 h3
          dsimp only
          rw [g5 b j h1 h2 (by omega), f0 b j (by omega)]
      · rw [if_neg (by rw [hv3, sI_eql (by omega) (by omega)]; exact hn0)]
        refine wq_some ⟨rfl, c2', ⟨l, fun h => absurd h hn0, fun _ => ⟨rfl, f0 _ _ (by omega), f0 _ _ (by omega)⟩, by dsimp only; rw [f0 _ _ (by omega)]; exact hE, fun e he => by dsimp only; rw [f0 _ _ (by omega)]; exact hM e he⟩, ?_⟩
        intro b j h1 h2 h3
        dsimp only
        rw [f0 b j (by omega)]
    unfold fX10_testFailed_b53 fX10_testFailed_b93
    simp (disch := omega) only [mlet, mck_s, sI_nn]
    rw [m1, m2 145 i (by omega), c1]
    by_cases ht : tN n t < 2
    · rw [if_pos (by rw [sI_ltl (by omega) (by omega)]; exact ht)]
      refine fin _ ?_
      rw [fN_a n r1]
      unfold fN
      rw [if_pos ht]
    · rw [if_neg (by rw [sI_ltl (by omega) (by omega)]; exact ht)]
      by_cases hp : 64 < p
      · rw [if_pos (by rw [sI_llt (by omega) (by omega)]; exact hp)]
        refine fin _ ?_
        rw [fN_b n r1]
        unfold fN
        rw [if_neg ht, if_pos hp]
      · rw [if_neg (by rw [sI_llt (by omega) (by omega)]; exact hp)]
        refine fin _ ?_
        rw [fN_c n r1]
        unfold fN
        rw [if_neg ht, if_neg hp]
  have mid : ∀ (s0 : Int32), s0 = sI (n % 2) → wq (fX10_testFailed_b20 fu (sI i) (sI n) s0 M L) (fun q => q.2 = L ∧ tfP i n p t k l sd M q.1) := by
    intro s0 hs0
    subst hs0
    unfold fX10_testFailed_b20
    rw [fN_2 n r1]
    by_cases h2 : n / 2 % 2 = 0
    · rw [if_pos (by rw [h2]; rfl)]
      simp (disch := omega) only [mlet, mck_s, sI_nn]
      rw [c4, sI_1]
      refine tail _ (n % 2) rfl ?_ ?_
      · rw [mset_s]
        unfold tN
        rw [if_pos h2]
        by_cases h255 : t < 255
        · rw [if_pos h255, if_neg (by rw [sI_llt (by omega) (by omega)]; omega)]
        · rw [if_neg h255, if_pos (by rw [sI_llt (by omega) (by omega)]; omega)]
          have : t = 255 := by omega
          rw [this]; rfl
      · intro b j h
        rw [mset_n h]
    · rw [if_neg (by rw [sI_eql (by omega) (by omega)]; omega)]
      refine tail M (n % 2) rfl ?_ (fun _ _ _ => rfl)
      rw [c4]
      unfold tN
      rw [if_neg h2]
  unfold DX10_testFailed
  simp (disch := omega) only [mlet, mck_s, sI_nn]
  rw [c2, fN_1 n r1]
  by_cases hn0 : n % 2 = 0
  · rw [if_pos (by rw [hn0]; rfl)]
    exact mid 0 (by rw [hn0]; rfl)
  · rw [if_neg (by rw [sI_eql (by omega) (by omega)]; exact hn0)]
    exact mid 1 (by have : n % 2 = 1 := by omega
                    rw [this]; rfl)
/-- the reference: a failed test; the class has done its part -/
theorem m_fails {fu : Nat} {A M : mwM} {L : mwL} {N i n p t a g k t0 G : Nat} {l : List Nat} {sd : Nat → Nat} (hf : 31 ≤ fu) (hN : N ≤ 30) (hi : i < N) (hr : rg n p t a g k) (hm : cm M i n p t a g k) (hc : cc A i (fN n (tN n t) p) p (tN n t) 0 0 k) (hk : ∀ x, x < N → x ≠ i → okc A M x) (h8 : l.length ≤ 8) (ht : t0 < 1000000000) (hl : ∀ x ∈ l, x < N) (hs : l.Pairwise (fun x y => sd x < sd y)) (hC : M 902 2 = sI N) (hR : M 902 1 = 8) (hT : M 902 19 = sI t0) (hT2 : ∀ x, x < N → sd x ≤ t0) (hG : M 902 20 = sI G) (hG2 : G ≤ 500) (hS : ∀ i, i < N → M 916 (i + 1) = sI (sd i)) (hS0 : ∀ i, i < N → (0 < sd i ↔ i ∈ l)) : wq (DX18_fails fu (sI (i + 1)) M L) (fun q => q.2 = L ∧ cm q.1 i (fN n (tN n t) p) p (tN n t) 0 0 k ∧ (n % 2 = 0 → stP A N i p t0 l sd M q.1) ∧ (n % 2 ≠ 0 → (∀ j, q.1 916 j = M 916 j) ∧ (∀ j, q.1 918 j = M 918 j) ∧ q.1 902 19 = M 902 19 ∧ q.1 902 20 = M 902 20) ∧ ∀ b j, ¬ (b = 908 ∧ 8 * (i + 1) ≤ j ∧ j < 8 * (i + 1) + 8) → ¬ (j = i + 1 ∧ (b = 909 ∨ b = 910 ∨ b = 911)) → b ≠ 916 → b ≠ 917 → b ≠ 918 → b ≠ 919 → ¬ (b = 902 ∧ (j = 19 ∨ j = 20)) → q.1 b j = M b j) := by
  obtain ⟨r1, r2, r3, r4, r5, r6, r7⟩ := hr
  obtain ⟨c1, c2, c3, c4, c5, c6⟩ := hc
  obtain ⟨m1, m2, m3, m4, m5, m6, m7, m8, m9⟩ := hm
  have ht2 := tN_lt (n := n) r4
  have kk : ∀ m b v, m < 256 → b < 8 → v < 2 → sb m b v < 256 := fun m b v hm hb hv => sb_lt m hm b hb v hv
  have n1 : sb n 4 0 < 256 := kk _ 4 0 r1 (by omega) (by omega)
  have n2 : sb (sb n 4 0) 6 0 < 256 := kk _ 6 0 n1 (by omega) (by omega)
  have n3 : sb (sb (sb n 4 0) 6 0) 3 1 < 256 := kk _ 3 1 n2 (by omega) (by omega)
  have n4 : sb (sb (sb (sb n 4 0) 6 0) 3 1) 7 1 < 256 := kk _ 7 1 n3 (by omega) (by omega)
  have hi1 : i + 1 ≤ 200 := by omega
  have b0 : ∀ m, m < 256 → m / 2^0 % 2 = m % 2 := fun m _ => by simp
  -- the end, from the four bits that always are set
  have fin : ∀ (M1 : mwM) (m : Nat), m < 256 → m % 2 = n % 2 → sb (sb (sb (sb m 1 1) 2 1) 5 1) 0 1 = fN n (tN n t) p → dg M1 (i + 1) m → M1 909 (i + 1) = sI (tN n t) → (∀ b j, ¬ (b = 908 ∧ 8 * (i + 1) ≤ j ∧ j < 8 * (i + 1) + 8) → ¬ (j = i + 1 ∧ b = 909) → M1 b j = M b j) → wq (fX18_fails_b82 fu (sI (i + 1)) M1 L) (fun q => q.2 = L ∧ cm q.1 i (fN n (tN n t) p) p (tN n t) 0 0 k ∧ (n % 2 = 0 → stP A N i p t0 l sd M q.1) ∧ (n % 2 ≠ 0 → (∀ j, q.1 916 j = M 916 j) ∧ (∀ j, q.1 918 j = M 918 j) ∧ q.1 902 19 = M 902 19 ∧ q.1 902 20 = M 902 20) ∧ ∀ b j, ¬ (b = 908 ∧ 8 * (i + 1) ≤ j ∧ j < 8 * (i + 1) + 8) → ¬ (j = i + 1 ∧ (b = 909 ∨ b = 910 ∨ b = 911)) → b ≠ 916 → b ≠ 917 → b ≠ 918 → b ≠ 919 → ¬ (b = 902 ∧ (j = 19 ∨ j = 20)) → q.1 b j = M b j) := by
    intro M1 m hm hmn hfn hd h909 hfr
    have s1 : sb m 1 1 < 256 := kk _ 1 1 hm (by omega) (by omega)
    have s2 : sb (sb m 1 1) 2 1 < 256 := kk _ 2 1 s1 (by omega) (by omega)
    have s3 : sb (sb (sb m 1 1) 2 1) 5 1 < 256 := kk _ 5 1 s2 (by omega) (by omega)
    unfold fX18_fails_b82 fX18_fails_b148
    rw [m_set hi1 (by omega), mb2_s, m_set hi1 (by omega), mb2_s, m_set hi1 (by omega), mb2_s]
    simp (disch := omega) only [mlet, mck_s, sI_nn]
    have d1 := dg_set (b := 1) (v := 1) hd hm (by omega) (by omega) bo_1
    have d2' := dg_set (b := 2) (v := 1) d1 s1 (by omega) (by omega) bo_1
    have d3 := dg_set (b := 5) (v := 1) d2' s2 (by omega) (by omega) bo_1
    have d4 := dg_o (a := 911) (j := i + 1) (x := 0) (dg_o (a := 910) (j := i + 1) (x := 0) d3 (by decide)) (by decide)
    rw [m_is d4 hi1 (by omega), mb3_s, m_set hi1 (by omega), mb2_s]
    have d5 := dg_set (b := 0) (v := 1) d4 s3 (by omega) (by omega) bo_1
    rw [hfn] at d5
    have e0 : sb (sb (sb m 1 1) 2 1) 5 1 / 2^0 % 2 = n % 2 := by
      rw [sb_dig _ s2 5 (by omega) 1 (by omega) 0 (by omega), if_neg (by decide), sb_dig _ s1 2 (by omega) 1 (by omega) 0 (by omega), if_neg (by decide), sb_dig _ hm 1 (by omega) 1 (by omega) 0 (by omega), if_neg (by decide), b0 m hm, hmn]
    rw [e0]
    revert d5
    generalize hM2 : mset (mset (mset (mset (mset (mset M1 908 (8 * (i + 1) + 1) (vp_nar FieldType.boolean 1)) 908 (8 * (i + 1) + 2) (vp_nar FieldType.boolean 1)) 908 (8 * (i + 1) + 5) (vp_nar FieldType.boolean 1)) 910 (i + 1) 0) 911 (i + 1) 0) 908 (8 * (i + 1) + 0) (vp_nar FieldType.boolean 1) = M2
    intro d5
    have f0 : ∀ b j, ¬ (b = 908 ∧ 8 * (i + 1) ≤ j ∧ j < 8 * (i + 1) + 8) → ¬ (j = i + 1 ∧ (b = 909 ∨ b = 910 ∨ b = 911)) → M2 b j = M b j := by
      intro b j h1 h2
      rw [← hM2, mset_n (by omega), mset_n (by omega), mset_n (by omega), mset_n (by omega), mset_n (by omega), mset_n (by omega), hfr b j h1 (by omega)]
    have cm2 : cm M2 i (fN n (tN n t) p) p (tN n t) 0 0 k := by
      refine ⟨?_, d5, ?_, ?_, ?_, ?_, ?_, ?_, ?_⟩
      all_goals (try dsimp only)
      · rw [f0 _ _ (by omega) (by omega)]; exact m1
      · rw [f0 _ _ (by omega) (by omega)]; exact m3
      · rw [← hM2, mset_k (by decide), mset_k (by decide), mset_k (by decide), mset_k (by decide), mset_k (by decide), mset_k (by decide), h909]
      · rw [← hM2, mset_k (by decide), mset_k (by decide), mset_s]; rfl
      · rw [← hM2, mset_k (by decide), mset_s]; rfl
      · rw [f0 _ _ (by omega) (by omega)]; exact m7
      · rw [f0 _ _ (by omega) (by omega)]; exact m8
      · rw [f0 _ _ (by omega) (by omega)]; exact m9
    by_cases hn0 : n % 2 = 0
    · rw [if_pos (by rw [hn0]; rfl)]
      have hhid : DX18_hidden fu (sI (i + 1)) M2 L = some (0, M2, L) := by
        obtain ⟨f, rfl⟩ : ∃ f, fu = f + 1 := ⟨fu - 1, by omega⟩
        unfold DX18_hidden
        simp (disch := omega) only [mlet, mck_s, sI_nn]
        rw [cm2.2.2.2.2.2.2.2.2]
        unfold fX18_hidden_h7
        rw [mloop_S]
        show fX18_hidden_i7 (f + 1) (sI (i + 1)) _ 0 M2 L = _
        unfold fX18_hidden_i7
        rw [if_pos (by decide)]
      have hp2 : pr A i = p := by
        unfold pr
        rw [c1, nn_s (by omega)]
      have hk2 : okp A M2 N := by
        intro x hx
        by_cases hxi : x = i
        · subst hxi
          exact ⟨p, fN n (tN n t) p, r2, r3, fN_lt r1, c1, c2, cm2.1, d5⟩
        · obtain ⟨n', p', t', a', g', k', q1, q2, q3⟩ := hk x hx hxi
          refine ⟨p', n', q1.2.1, q1.2.2.1, q1.1, q2.1, q2.2.1, by rw [f0 _ _ (by omega) (by omega)]; exact q3.1, dg_f q3.2.1 (fun b hb => f0 _ _ (by omega) (by omega))⟩
      rw [hhid, mb3_s, if_pos rfl]
      refine wq_b2 (m_store (t := t0) (G := G) hf hN hi hp2 h8 ht hl hs hk2 (by rw [f0 _ _ (by omega) (by omega)]; exact hC) (by rw [f0 _ _ (by omega) (by omega)]; exact hR) (by rw [f0 _ _ (by omega) (by omega)]; exact hT) hT2 (by rw [f0 _ _ (by omega) (by omega)]; exact hG) hG2 (fun x hx => by rw [f0 _ _ (by omega) (by omega)]; exact hS x hx) hS0) ?_
      rintro M3 L3 ⟨rfl, ⟨l', sd', t', G', g1, g2, g3, g4, g5, g6, g7, g8, g9, g10, g11⟩, g12⟩
      dsimp only at g3 g5 g7 g10 g11 g12
      refine wq_some ⟨rfl, ?_, fun _ => ⟨l', sd', t', G', g1, g2, g3, g4, g5, g6, g7, g8, g9, ?_, ?_⟩, fun h => absurd hn0 h, ?_⟩
      all_goals (try dsimp only)
      · obtain ⟨d1, d2, d3, d4, d5, d6, d7, d8, d9⟩ := cm2
        refine ⟨?_, dg_f d2 (fun b hb => g12 _ _ (by omega) (by omega) (by decide) (by decide) (by omega)), ?_, ?_, ?_, ?_, ?_, ?_, ?_⟩
        all_goals (try dsimp only)
        · (try dsimp only); rw [g12 _ _ (by omega) (by omega) (by decide) (by decide) (by omega), d1]
        · (try dsimp only); rw [g12 _ _ (by omega) (by omega) (by decide) (by decide) (by omega), d3]
        · (try dsimp only); rw [g12 _ _ (by omega) (by omega) (by decide) (by decide) (by omega), d4]
        · (try dsimp only); rw [g12 _ _ (by omega) (by omega) (by decide) (by decide) (by omega), d5]
        · (try dsimp only); rw [g12 _ _ (by omega) (by omega) (by decide) (by decide) (by omega), d6]
        · (try dsimp only); rw [g12 _ _ (by omega) (by omega) (by decide) (by decide) (by omega), d7]
        · (try dsimp only); rw [g12 _ _ (by omega) (by omega) (by decide) (by decide) (by omega), d8]
        · (try dsimp only); rw [g12 _ _ (by omega) (by omega) (by decide) (by decide) (by omega), d9]
      · intro h
        obtain ⟨e1, e2, e3⟩ := g10 h
        exact ⟨e1.trans (f0 _ _ (by omega) (by omega)), fun h => (e2 h).trans (f0 _ _ (by omega) (by omega)), fun h => (e3 h).trans (f0 _ _ (by omega) (by omega))⟩
      · intro j hj
        rw [g11 j hj, f0 _ _ (by omega) (by omega)]
      · intro b j h1 h2 h3 h4 h5 h6 h7
        try dsimp only
        rw [g12 b j h3 h4 h5 h6 h7, f0 b j h1 h2]
    · rw [if_neg (by rw [sI_eql (by omega) (by omega)]; exact hn0)]
      refine wq_some ⟨rfl, cm2, fun h => absurd h hn0, fun _ => ⟨fun j => f0 _ _ (by omega) (by omega), fun j => f0 _ _ (by omega) (by omega), f0 _ _ (by omega) (by omega), f0 _ _ (by omega) (by omega)⟩, ?_⟩
      all_goals (try dsimp only)
      intro b j h1 h2 _ _ _ _ _
      exact f0 b j h1 h2
  -- bits 3 and 7
  have mid : ∀ (M1 : mwM), dg M1 (i + 1) (sb (sb n 4 0) 6 0) → M1 909 (i + 1) = sI (tN n t) → (∀ b j, ¬ (b = 908 ∧ 8 * (i + 1) ≤ j ∧ j < 8 * (i + 1) + 8) → ¬ (j = i + 1 ∧ b = 909) → M1 b j = M b j) → wq (fX18_fails_b46 fu (sI (i + 1)) M1 L) (fun q => q.2 = L ∧ cm q.1 i (fN n (tN n t) p) p (tN n t) 0 0 k ∧ (n % 2 = 0 → stP A N i p t0 l sd M q.1) ∧ (n % 2 ≠ 0 → (∀ j, q.1 916 j = M 916 j) ∧ (∀ j, q.1 918 j = M 918 j) ∧ q.1 902 19 = M 902 19 ∧ q.1 902 20 = M 902 20) ∧ ∀ b j, ¬ (b = 908 ∧ 8 * (i + 1) ≤ j ∧ j < 8 * (i + 1) + 8) → ¬ (j = i + 1 ∧ (b = 909 ∨ b = 910 ∨ b = 911)) → b ≠ 916 → b ≠ 917 → b ≠ 918 → b ≠ 919 → ¬ (b = 902 ∧ (j = 19 ∨ j = 20)) → q.1 b j = M b j) := by
    intro M1 hd h909 hfr
    have z2 : sb (sb n 4 0) 6 0 % 2 = n % 2 := by
      have := sb_dig _ n1 6 (by omega) 0 (by omega) 0 (by omega)
      rw [if_neg (by decide), sb_dig _ r1 4 (by omega) 0 (by omega) 0 (by omega), if_neg (by decide)] at this
      simpa using this
    have z3 : sb (sb (sb n 4 0) 6 0) 3 1 % 2 = n % 2 := by
      have := sb_dig _ n2 3 (by omega) 1 (by omega) 0 (by omega)
      rw [if_neg (by decide)] at this
      rw [← z2]
      simpa using this
    have z4 : sb (sb (sb (sb n 4 0) 6 0) 3 1) 7 1 % 2 = n % 2 := by
      have := sb_dig _ n3 7 (by omega) 1 (by omega) 0 (by omega)
      rw [if_neg (by decide)] at this
      rw [← z3]
      simpa using this
    unfold fX18_fails_b46
    rw [mck_s (by omega) (by omega), sI_nn (by omega), h909]
    by_cases hlt : tN n t < 2
    · rw [if_pos (by rw [sI_lel (by omega) (by omega)]; omega)]
      exact fin M1 _ n2 z2 (by unfold fN; rw [if_pos hlt]) hd h909 hfr
    · rw [if_neg (by rw [sI_lel (by omega) (by omega)]; omega), m_set hi1 (by omega), mb2_s, mck_s (by omega) (by omega), mset_k (a := 903) (by decide), hfr 903 _ (by omega) (by omega), m1]
      have d3 := dg_set (b := 3) (v := 1) hd n2 (by omega) (by omega) bo_1
      have fr3 : ∀ b j, ¬ (b = 908 ∧ 8 * (i + 1) ≤ j ∧ j < 8 * (i + 1) + 8) → ¬ (j = i + 1 ∧ b = 909) → mset M1 908 (8 * (i + 1) + 3) (vp_nar FieldType.boolean 1) b j = M b j := by
        intro b j h1 h2
        rw [mset_n (by omega)]
        exact hfr b j h1 h2
      by_cases hp : 64 < p
      · rw [if_pos (by rw [sI_lle (by omega) (by omega)]; omega)]
        exact fin _ _ n3 z3 (by unfold fN; rw [if_neg hlt, if_pos hp]) d3 (by rw [mset_k (by decide)]; exact h909) fr3
      · rw [if_neg (by rw [sI_lle (by omega) (by omega)]; omega), m_set hi1 (by omega), mb2_s]
        refine fin _ _ n4 z4 (by unfold fN; rw [if_neg hlt, if_neg hp]) (dg_set (b := 7) (v := 1) d3 n3 (by omega) (by omega) bo_1) (by rw [mset_k (by decide), mset_k (by decide)]; exact h909) ?_
        intro b j h1 h2
        rw [mset_n (by omega)]
        exact fr3 b j h1 h2
  unfold DX18_fails
  rw [m_set hi1 (by omega), mb2_s, m_set hi1 (by omega), mb2_s]
  have d4 := dg_set (b := 4) (v := 0) m2 r1 (by omega) (by omega) bo_0
  have d6 := dg_set (b := 6) (v := 0) d4 n1 (by omega) (by omega) bo_0
  have fr6 : ∀ b j, ¬ (b = 908 ∧ 8 * (i + 1) ≤ j ∧ j < 8 * (i + 1) + 8) → mset (mset M 908 (8 * (i + 1) + 4) (vp_nar FieldType.boolean 0)) 908 (8 * (i + 1) + 6) (vp_nar FieldType.boolean 0) b j = M b j := by
    intro b j h1
    rw [mset_n (by omega), mset_n (by omega)]
  rw [m_is d6 hi1 (by omega), mb3_s]
  have e1 : sb (sb n 4 0) 6 0 / 2^1 % 2 = n / 2 % 2 := by
    rw [sb_dig _ n1 6 (by omega) 0 (by omega) 1 (by omega), if_neg (by decide), sb_dig _ r1 4 (by omega) 0 (by omega) 1 (by omega), if_neg (by decide)]
  rw [e1]
  by_cases h2 : n / 2 % 2 = 0
  · rw [if_pos (by rw [h2]; rfl), mck_s (by omega) (by omega), sI_nn (by omega), fr6 909 _ (by omega), m4]
    by_cases h255 : 255 ≤ t
    · rw [if_pos (by rw [sI_lle (by omega) (by omega)]; exact h255)]
      refine mid _ d6 ?_ (fun b j h1 _ => fr6 b j h1)
      rw [fr6 909 _ (by omega), m4]
      unfold tN
      rw [if_pos h2, if_neg (by omega)]
    · rw [if_neg (by rw [sI_lle (by omega) (by omega)]; exact h255)]
      simp (disch := omega) only [mlet, mck_s, sI_nn]
      refine mid _ (dg_o d6 (by decide)) ?_ ?_
      · rw [mset_s, sI_1]
        unfold tN
        rw [if_pos h2, if_pos (by omega)]
      · intro b j h1 h3
        rw [mset_n (by omega)]
        exact fr6 b j h1
  · rw [if_neg (by rw [sI_eql (by omega) (by omega)]; exact h2)]
    refine mid _ d6 ?_ (fun b j h1 _ => fr6 b j h1)
    rw [fr6 909 _ (by omega), m4]
    unfold tN
    rw [if_neg h2]
/-! one event on both sides: the class's memory is A, the reference's is M -/
abbrev okeC (A : mwM) (N : Nat) (l : List Nat) : Prop := l.length ≤ 8 ∧ (∀ x ∈ l, x < N) ∧ A 139 3 = sI l.length ∧ ∀ e (h : e < l.length), A 153 e = sI (l[e]'h)
abbrev okeM (M : mwM) (N : Nat) (l : List Nat) (sd : Nat → Nat) (E : Nat) : Prop := (∀ i, i < N → M 916 (i + 1) = sI (sd i)) ∧ (∀ i, i < N → (0 < sd i ↔ i ∈ l)) ∧ l.Pairwise (fun x y => sd x < sd y) ∧ ∃ t, t ≤ E ∧ M 902 19 = sI t ∧ ∀ i, i < N → sd i ≤ t
abbrev okeF (A M : mwM) (l : List Nat) : Prop := ∀ i ∈ l, A 151 i = M 918 (8 * (i + 1) + 1) ∧ A 152 i = M 918 (8 * (i + 1) + 5)
/-- what both sides know of troubles, E events having been -/
def RTr (A M : mwM) (N E : Nat) : Prop := N ≤ 30 ∧ A 139 2 = sI N ∧ M 902 2 = sI N ∧ M 902 1 = 8 ∧ M 902 23 = 0 ∧ A 139 4 = M 902 24 ∧ A 139 5 = sI E ∧ M 902 25 = sI E ∧ (∀ k, k < 32 → M 920 k = 0) ∧ (∃ G, G ≤ 500 ∧ M 902 20 = sI G) ∧ (∀ i, i < N → okc A M i) ∧ ∃ (l : List Nat) (sd : Nat → Nat), okeC A N l ∧ okeM M N l sd E ∧ okeF A M l
theorem cc_f {M M' : mwM} {i n p t a g k : Nat} (h : cc M i n p t a g k) (hf : ∀ b, 145 ≤ b → b ≤ 150 → M' b i = M b i) : cc M' i n p t a g k := by
  obtain ⟨h1, h2, h3, h4, h5, h6⟩ := h
  exact ⟨by rw [hf _ (by omega) (by omega), h1], by rw [hf _ (by omega) (by omega), h2], by rw [hf _ (by omega) (by omega), h3], by rw [hf _ (by omega) (by omega), h4], by rw [hf _ (by omega) (by omega), h5], by rw [hf _ (by omega) (by omega), h6]⟩
theorem cm_f {M M' : mwM} {i n p t a g k : Nat} (h : cm M i n p t a g k) (hf : ∀ b, (903 ≤ b ∧ b ≤ 907 ∨ 909 ≤ b ∧ b ≤ 911) → M' b (i + 1) = M b (i + 1)) (hf2 : ∀ b, b < 8 → M' 908 (8 * (i + 1) + b) = M 908 (8 * (i + 1) + b)) : cm M' i n p t a g k := by
  obtain ⟨h1, h2, h3, h4, h5, h6, h7, h8, h9⟩ := h
  exact ⟨by rw [hf _ (by omega), h1], dg_f h2 hf2, by rw [hf _ (by omega), h3], by rw [hf _ (by omega), h4], by rw [hf _ (by omega), h5], by rw [hf _ (by omega), h6], by rw [hf _ (by omega), h7], by rw [hf _ (by omega), h8], by rw [hf _ (by omega), h9]⟩
/-- the counter behind a failed test, and behind one that passed -/
def kF (k : Nat) : Nat := if (if k < 128 then 128 else k) + 64 < 255 then (if k < 128 then 128 else k) + 64 else 255
def kP (k : Nat) : Nat := if k < 128 then k - 127 else 1
theorem kF_lt {k : Nat} (h : k < 256) : kF k < 256 := by unfold kF; split <;> (try split) <;> omega
theorem kP_lt {k : Nat} (h : k < 256) : kP k < 256 := by unfold kP; split <;> omega
theorem kF_c : ∀ k, k < 256 → (if 127 < ((if sk k < 0 then 0 else sk k) + 64) then 127 else ((if sk k < 0 then 0 else sk k) + 64)) = sk (kF k) := by decide +kernel
theorem kF_m : ∀ k, k < 256 → (if (if 0 ≤ sk k then sk k else 0) + 64 ≤ 127 then (if 0 ≤ sk k then sk k else 0) + 64 else 127) = sk (kF k) := by decide +kernel
theorem kP_c : ∀ k, k < 256 → (if ((if 0 < sk k then 0 else sk k) - 127) < (-128) then (-128) else ((if 0 < sk k then 0 else sk k) - 127)) = sk (kP k) := by decide +kernel
theorem kP_m : ∀ k, k < 256 → (if (-128) ≤ ((if sk k ≤ 0 then sk k else 0) - 127) then ((if sk k ≤ 0 then sk k else 0) - 127) else (-128)) = sk (kP k) := by decide +kernel
theorem sk_127 : ∀ k, k < 256 → (sk k = 127 ↔ k = 255) := by decide +kernel
theorem sk_128 : ∀ k, k < 256 → (sk k = (-128) ↔ k = 0) := by decide +kernel
theorem nxt_sub {M : mwM} {l l' : List Nat} {sd : Nat → Nat} {p i x : Nat} (h : nxt M l sd p i l') (hx : x ∈ l') (hxi : x ≠ i) : x ∈ l := by
  rcases h with ⟨_, rfl⟩ | ⟨_, _, rfl⟩ | ⟨_, _, _, rfl⟩ | ⟨_, _, e, he, _, rfl⟩
  · exact hx
  · rw [List.mem_append] at hx
    rcases hx with hx | hx
    · exact hx
    · simp at hx; exact absurd hx hxi
  · exact hx
  · rw [List.mem_append] at hx
    rcases hx with hx | hx
    · exact List.mem_of_mem_eraseIdx hx
    · simp at hx; exact absurd hx hxi
theorem m_none {fu : Nat} {M : mwM} {L : mwL} {N i : Nat} (hN : N ≤ 30) (hC : M 902 2 = sI N) (hi : i < N) : DX18_none fu (sI (i + 1)) M L = some (0, mset M 902 0 0, L) := by
  unfold DX18_none fX18_none_b23
  simp only [mlet]
  rw [if_neg (by rw [sI_ltl (by omega) (by omega)]; omega), mset_j (a := 902) (by decide), hC, if_pos (by rw [sI_le (by omega) (by omega)]; omega)]
  rfl
theorem off_32 : ∀ c, c < 31 → sI c - sI c / 32 * 32 = sI c := by decide +kernel
theorem st_failed {fu : Nat} {A M : mwM} {L L2 : mwL} {N E i : Nat} {tm : Int32} (hf : 31 ≤ fu) (hE : E < 900000000) (hi : i < N) (h : RTr A M N E) : ∃ A' r M', DX10_noteFailed fu (sI i) tm A L = some (A', L) ∧ DX18_event fu (sI (i + 1)) 1 M L2 = some (r, M', L2) ∧ RTr A' M' N (E + 1) ∧ A' 144 i = tm ∧ (∀ b j, ¬ (b = 139 ∧ (j = 3 ∨ j = 5)) → ¬ (j = i ∧ 144 ≤ b ∧ b ≤ 152) → b ≠ 153 → A' b j = A b j) ∧ (∀ b j, ¬ (902 ≤ b ∧ b ≤ 920) → M' b j = M b j) := by
  obtain ⟨hN, a1, a2, a3, a4, a5, a6, a7, a8, ⟨G, hG, a9⟩, a10, l, sd, ⟨b1, b2, b3, b4⟩, ⟨e1, e2, e3, t0, e4, e5, e6⟩, hF⟩ := h
  obtain ⟨n, p, t, a, g, k, hr, hc, hm⟩ := a10 i hi
  have hr' := hr
  obtain ⟨r1, r2, r3, r4, r5, r6, r7⟩ := hr'
  have hk1 := kF_lt r7
  -- the class
  have hC : wq (DX10_noteFailed fu (sI i) tm A L) (fun q => q.2 = L ∧ ∃ l', q.1 139 3 = sI l'.length ∧ (∀ e (h : e < l'.length), q.1 153 e = sI (l'[e]'h)) ∧ q.1 139 5 = sI (E + 1) ∧ q.1 144 i = tm ∧ (∀ b j, ¬ (b = 139 ∧ (j = 3 ∨ j = 5)) → ¬ (j = i ∧ 144 ≤ b ∧ b ≤ 152) → b ≠ 153 → q.1 b j = A b j) ∧ (kF k ≠ 255 → cc q.1 i n p t a g (kF k) ∧ l' = l ∧ q.1 152 i = A 152 i ∧ q.1 151 i = A 151 i) ∧ (kF k = 255 → cc q.1 i (fN n (tN n t) p) p (tN n t) 0 0 255 ∧ (n % 2 = 0 → nxt q.1 l sd p i l' ∧ (i ∈ l' → q.1 152 i = sI (E + 1) ∧ (i ∈ l → q.1 151 i = A 151 i) ∧ (i ∉ l → q.1 151 i = sI (E + 1)))) ∧ (n % 2 ≠ 0 → l' = l ∧ q.1 152 i = A 152 i ∧ q.1 151 i = A 151 i))) := by
    obtain ⟨c1, c2, c3, c4, c5, c6⟩ := hc
    unfold DX10_noteFailed fX10_noteFailed_b68
    simp (disch := omega) only [mlet, mck_s, sI_nn]
    rw [mset_k (a := 139) (by decide), a6, sI_1, mset_k (a := 147) (k := 139) (by decide), mset_k (a := 147) (k := 144) (by decide), c3, kF_c k r7]
    generalize hA1 : mset (mset (mset A 144 i tm) 139 5 (sI (E + 1))) 147 i (sk (kF k)) = A1
    have f0 : ∀ b j, ¬ (b = 139 ∧ j = 5) → ¬ (j = i ∧ (b = 144 ∨ b = 147)) → A1 b j = A b j := by
      intro b j h1 h2
      rw [← hA1, mset_n (by omega), mset_n (by omega), mset_n (by omega)]
    have g1 : A1 139 5 = sI (E + 1) := by rw [← hA1, mset_k (by decide), mset_s]
    have g2 : A1 144 i = tm := by rw [← hA1, mset_k (by decide), mset_k (by decide), mset_s]
    have g3 : A1 147 i = sk (kF k) := by rw [← hA1, mset_s]
    have cc1 : cc A1 i n p t a g (kF k) := ⟨by rw [f0 _ _ (by omega) (by omega), c1], by rw [f0 _ _ (by omega) (by omega), c2], g3, by rw [f0 _ _ (by omega) (by omega), c4], by rw [f0 _ _ (by omega) (by omega), c5], by rw [f0 _ _ (by omega) (by omega), c6]⟩
    rw [g3]
    by_cases hk : kF k = 255
    · rw [if_pos ((sk_127 _ hk1).mpr hk)]
      have hq : okq A1 N := by
        intro x hx
        obtain ⟨n', p', t', a', g', k', q1, q2, q3⟩ := a10 x hx
        exact ⟨p', n', q1.2.2.1, q1.1, by rw [f0 _ _ (by omega) (by omega)]; exact q2.1, by rw [f0 _ _ (by omega) (by omega)]; exact q2.2.1⟩
      refine wq_b2 (c_testFailed (sd := sd) (by omega) hN hi (by exact ⟨r1, r2, r3, r4, r5, r6, hk1⟩) cc1 b1 b2 e3 hq (by rw [f0 _ _ (by omega) (by omega)]; exact b3) (fun e he => by rw [f0 _ _ (by omega) (by omega)]; exact b4 e he)) ?_
      rintro A2 L3 ⟨rfl, d1, ⟨l', d2, d3, d4, d5⟩, d6⟩
      dsimp only at d1 d2 d3 d4 d5 d6
      refine wq_some ⟨rfl, l', d4, d5, ?_, ?_, ?_, fun h => absurd hk h, fun _ => ⟨by rw [← hk]; exact d1, ?_, ?_⟩⟩
      all_goals (try dsimp only)
      · try dsimp only
        rw [d6 _ _ (by omega) (by omega) (by omega), g1]
      · try dsimp only
        rw [d6 _ _ (by omega) (by omega) (by omega), g2]
      · intro b j h1 h2 h3
        try dsimp only
        rw [d6 b j h3 (by omega) (by omega), f0 b j (by omega) (by omega)]
      · intro hn
        obtain ⟨u1, u2⟩ := d2 hn
        refine ⟨u1, fun h => ?_⟩
        all_goals (try dsimp only)
        obtain ⟨u3, u4, u5⟩ := u2 h
        exact ⟨u3.trans g1, fun h => (u4 h).trans (f0 _ _ (by omega) (by omega)), fun h => (u5 h).trans g1⟩
      · intro hn
        obtain ⟨u1, u2, u3⟩ := d3 hn
        exact ⟨u1, u2.trans (f0 _ _ (by omega) (by omega)), u3.trans (f0 _ _ (by omega) (by omega))⟩
    · rw [if_neg (fun h => hk ((sk_127 _ hk1).mp h))]
      refine wq_some ⟨rfl, l, by dsimp only; rw [f0 _ _ (by omega) (by omega)]; exact b3, fun e he => by dsimp only; rw [f0 _ _ (by omega) (by omega)]; exact b4 e he, g1, g2, ?_, fun _ => ⟨cc1, rfl, f0 _ _ (by omega) (by omega), f0 _ _ (by omega) (by omega)⟩, fun h => absurd h hk⟩
      all_goals (try dsimp only)
      intro b j h1 h2 h3
      exact f0 b j (by omega) (by omega)
  obtain ⟨⟨A', L'⟩, hC1, rfl, l', u1, u2, u3, u4, u5, u6, u7⟩ := hC
  dsimp only at u1 u2 u3 u4 u5 u6 u7
  -- the reference
  have hk2 : ∀ x, x < N → x ≠ i → okc A' (mset (mset (mset M 902 0 0) 902 25 (sI (E + 1))) 907 (i + 1) (sk (kF k))) x := by
    intro x hx hxi
    obtain ⟨n', p', t', a', g', k', q1, q2, q3⟩ := a10 x hx
    refine ⟨n', p', t', a', g', k', q1, cc_f q2 (fun b h1 h2 => u5 b x (by omega) (by omega) (by omega)), cm_f q3 (fun b hb => ?_) (fun b hb => ?_)⟩
    all_goals (try dsimp only)
    · rw [mset_n (by omega), mset_n (by omega), mset_n (by omega)]
    · rw [mset_n (by omega), mset_n (by omega), mset_n (by omega)]
  generalize hM2 : mset (mset (mset M 902 0 0) 902 25 (sI (E + 1))) 907 (i + 1) (sk (kF k)) = M2 at hk2
  have f0 : ∀ b j, ¬ (b = 902 ∧ (j = 0 ∨ j = 25)) → ¬ (b = 907 ∧ j = i + 1) → M2 b j = M b j := by
    intro b j h1 h2
    rw [← hM2, mset_n (by omega), mset_n (by omega), mset_n (by omega)]
  have g25 : M2 902 25 = sI (E + 1) := by rw [← hM2, mset_k (by decide), mset_s]
  have cm2 : cm M2 i n p t a g (kF k) := by
    obtain ⟨m1, m2, m3, m4, m5, m6, m7, m8, m9⟩ := hm
    exact ⟨by rw [f0 _ _ (by omega) (by omega), m1], dg_f m2 (fun b hb => f0 _ _ (by omega) (by omega)), by rw [← hM2, mset_s], by rw [f0 _ _ (by omega) (by omega), m4], by rw [f0 _ _ (by omega) (by omega), m5], by rw [f0 _ _ (by omega) (by omega), m6], by rw [f0 _ _ (by omega) (by omega), m7], by rw [f0 _ _ (by omega) (by omega), m8], by rw [f0 _ _ (by omega) (by omega), m9]⟩
  have hev : DX18_event fu (sI (i + 1)) 1 M L2 = (if sk (kF k) = 127 then mb2 (DX18_fails fu (sI (i + 1)) M2 L2) (fun M11 L12 => fX18_event_b224 fu (sI (i + 1)) 1 M11 L12) else fX18_event_b224 fu (sI (i + 1)) 1 M2 L2) := by
    obtain ⟨m1, m2, m3, m4, m5, m6, m7, m8, m9⟩ := hm
    have hkm := kF_m k r7
    unfold DX18_event fX18_event_b76 fX18_event_b111
    rw [m_none hN a2 hi, mb3_s, if_pos rfl, mset_j (a := 902) (b := 23) (by decide), a4, if_pos rfl]
    simp only [mlet]
    rw [off_32 _ (by omega), mck_s (by omega) (by omega), sI_nn (by omega), mset_k (a := 920) (by decide), mset_k (a := 920) (by decide), a8 _ (by omega), if_pos rfl, if_neg (by decide)]
    simp (disch := omega) only [mck_s]
    rw [mset_j (a := 902) (b := 25) (by decide), a7, sI_1, mset_k (a := 907) (by decide), mset_k (a := 907) (by decide), m3]
    simp only [mset_s]
    simp only [mset_k (show (904 : Nat) ≠ 902 by decide), m7]
    have hover : ∀ x y, mset (mset (mset (mset M 902 0 0) 902 25 (sI (E + 1))) 907 (i + 1) x) 907 (i + 1) y = mset (mset (mset M 902 0 0) 902 25 (sI (E + 1))) 907 (i + 1) y := by
      intro x y
      funext a b
      simp only [mset]
      split <;> rfl
    simp only [hover]
    by_cases h0 : 0 ≤ sk k
    · simp only [if_pos h0] at hkm ⊢
      by_cases h1 : sk k + 64 ≤ 127
      · rw [if_pos h1] at hkm ⊢
        rw [hkm, hM2]
      · rw [if_neg h1] at hkm ⊢
        rw [if_pos hkm.symm]
        rw [hkm, hM2]
        simp
    · simp only [if_neg h0] at hkm ⊢
      by_cases h1 : (0 : Int32) + 64 ≤ 127
      · rw [if_pos h1] at hkm ⊢
        rw [hkm, hM2]
      · exact absurd (by decide) h1
  have hst : ∀ (M3 : mwM) (n' : Nat), n' < 256 → dg M3 (i + 1) n' → fX18_event_b224 fu (sI (i + 1)) 1 M3 L2 = some (sI n', M3, L2) := by
    intro M3 n' hn hd
    unfold fX18_event_b224
    rw [m_statusOf hd hn (by omega) (by omega), mb3_s]
  by_cases hk : kF k = 255
  · obtain ⟨v1, v2, v3⟩ := u7 hk
    have hmf := m_fails (fu := fu) (A := A') (M := M2) (L := L2) (G := G) (t0 := t0) (l := l) (sd := sd) hf hN hi ⟨r1, r2, r3, r4, r5, r6, hk1⟩ cm2 (by rw [hk]; exact v1) hk2 b1 (by omega) b2 e3 (by rw [f0 _ _ (by omega) (by omega)]; exact a2) (by rw [f0 _ _ (by omega) (by omega)]; exact a3) (by rw [f0 _ _ (by omega) (by omega)]; exact e5) e6 (by rw [f0 _ _ (by omega) (by omega)]; exact a9) hG (fun x hx => by rw [f0 _ _ (by omega) (by omega)]; exact e1 x hx) e2
    obtain ⟨⟨M', L'⟩, hM1, rfl, w1, w2, w3, w4⟩ := hmf
    dsimp only at w1 w2 w3 w4
    have w5 : ∀ b j, ¬ (b = 902 ∧ (j = 0 ∨ j = 25 ∨ j = 19 ∨ j = 20)) → ¬ (b = 907 ∧ j = i + 1) → ¬ (b = 908 ∧ 8 * (i + 1) ≤ j ∧ j < 8 * (i + 1) + 8) → ¬ (j = i + 1 ∧ (b = 909 ∨ b = 910 ∨ b = 911)) → b ≠ 916 → b ≠ 917 → b ≠ 918 → b ≠ 919 → M' b j = M b j := by
      intro b j h1 h2 h3 h4 h5 h6 h7 h8
      rw [w4 b j h3 h4 h5 h6 h7 h8 (by omega), f0 b j (by omega) h2]
    refine ⟨A', sI (fN n (tN n t) p), M', hC1, ?_, ?_, u4, u5, fun b j h => w5 b j (by omega) (by omega) (by omega) (by omega) (by omega) (by omega) (by omega) (by omega)⟩
    all_goals (try dsimp only)
    · rw [hev, if_pos ((sk_127 _ hk1).mpr hk), hM1, mb2_s, hst M' _ (fN_lt r1) w1.2.1]
    · have hokc : ∀ x, x < N → okc A' M' x := by
        intro x hx
        by_cases hxi : x = i
        · subst hxi
          exact ⟨_, _, _, _, _, _, ⟨fN_lt r1, r2, r3, tN_lt r4, by omega, by omega, by omega⟩, v1, by rw [← hk]; exact w1⟩
        · obtain ⟨n', p', t', a', g', k', q1, q2, q3⟩ := a10 x hx
          exact ⟨n', p', t', a', g', k', q1, cc_f q2 (fun b h1 h2 => u5 b x (by omega) (by omega) (by omega)), cm_f q3 (fun b hb => w5 _ _ (by omega) (by omega) (by omega) (by omega) (by omega) (by omega) (by omega) (by omega)) (fun b hb => w5 _ _ (by omega) (by omega) (by omega) (by omega) (by omega) (by omega) (by omega) (by omega))⟩
      have base : ∀ G', G' ≤ 500 → M' 902 20 = sI G' → (∃ (l : List Nat) (sd : Nat → Nat), okeC A' N l ∧ okeM M' N l sd (E + 1) ∧ okeF A' M' l) → RTr A' M' N (E + 1) := by
        intro G' hG1 hG2 hh
        refine ⟨hN, ?_, ?_, ?_, ?_, ?_, u3, ?_, ?_, ⟨G', hG1, hG2⟩, hokc, hh⟩
        all_goals (try dsimp only)
        · rw [u5 _ _ (by omega) (by omega) (by omega)]; exact a1
        · rw [w5 _ _ (by omega) (by omega) (by omega) (by omega) (by omega) (by omega) (by omega) (by omega)]; exact a2
        · rw [w5 _ _ (by omega) (by omega) (by omega) (by omega) (by omega) (by omega) (by omega) (by omega)]; exact a3
        · rw [w5 _ _ (by omega) (by omega) (by omega) (by omega) (by omega) (by omega) (by omega) (by omega)]; exact a4
        · rw [u5 _ _ (by omega) (by omega) (by omega), w5 _ _ (by omega) (by omega) (by omega) (by omega) (by omega) (by omega) (by omega) (by omega)]; exact a5
        · rw [w4 _ _ (by omega) (by omega) (by omega) (by omega) (by omega) (by omega) (by omega)]; exact g25
        · intro x hx
          rw [w5 _ _ (by omega) (by omega) (by omega) (by omega) (by omega) (by omega) (by omega) (by omega)]; exact a8 x hx
      by_cases hn0 : n % 2 = 0
      · obtain ⟨l2, sd', t', G', s1, s2, s3, s4, s5, s6, s7, s8, s9, s10, s11⟩ := w2 hn0
        obtain ⟨x1, x2⟩ := v2 hn0
        have hll : l2 = l' := nxt_uni e3 s1 x1
        subst hll
        obtain ⟨y1, y2⟩ := nxt_mem hi b2 s1
        refine base G' s6 s5 ⟨l2, sd', ⟨y2 b1, y1, u1, u2⟩, ⟨s7, s8, s9, t', by omega, s3, s4⟩, ?_⟩
        intro x hx
        by_cases hxi : x = i
        · subst hxi
          obtain ⟨z1, z2, z3⟩ := x2 hx
          obtain ⟨z4, z5, z6⟩ := s10 hx
          refine ⟨?_, by rw [z1, z4, g25]⟩
          all_goals (try dsimp only)
          by_cases hil : x ∈ l
          · rw [z2 hil, z5 hil, f0 _ _ (by omega) (by omega)]
            exact (hF x hil).1
          · rw [z3 hil, z6 hil, g25]
        · have hxl := nxt_sub s1 hx hxi
          rw [u5 _ _ (by omega) (by omega) (by omega), u5 _ _ (by omega) (by omega) (by omega), s11 _ (by omega), s11 _ (by omega), f0 _ _ (by omega) (by omega), f0 _ _ (by omega) (by omega)]
          exact hF x hxl
      · obtain ⟨x1, x2, x3⟩ := v3 hn0
        obtain ⟨z1, z2, z3, z4⟩ := w3 hn0
        subst x1
        refine base G hG (by rw [z4, f0 _ _ (by omega) (by omega)]; exact a9) ⟨l', sd, ⟨b1, b2, u1, u2⟩, ⟨fun x hx => by rw [z1, f0 _ _ (by omega) (by omega)]; exact e1 x hx, e2, e3, t0, by omega, by rw [z3, f0 _ _ (by omega) (by omega)]; exact e5, e6⟩, ?_⟩
        intro x hx
        rw [z2, z2, f0 _ _ (by omega) (by omega), f0 _ _ (by omega) (by omega)]
        by_cases hxi : x = i
        · subst hxi
          rw [x2, x3]
          exact hF x hx
        · rw [u5 _ _ (by omega) (by omega) (by omega), u5 _ _ (by omega) (by omega) (by omega)]
          exact hF x hx
  · obtain ⟨v1, v2, v3, v4⟩ := u6 hk
    subst v2
    refine ⟨A', sI n, M2, hC1, ?_, ?_, u4, u5, fun b j h => f0 b j (by omega) (by omega)⟩
    all_goals (try dsimp only)
    · rw [hev, if_neg (fun h => hk ((sk_127 _ hk1).mp h)), hst M2 n r1 cm2.2.1]
    · refine ⟨hN, ?_, ?_, ?_, ?_, ?_, u3, g25, ?_, ⟨G, hG, ?_⟩, ?_, l', sd, ⟨b1, b2, u1, u2⟩, ⟨fun x hx => by rw [f0 _ _ (by omega) (by omega)]; exact e1 x hx, e2, e3, t0, by omega, by rw [f0 _ _ (by omega) (by omega)]; exact e5, e6⟩, ?_⟩
      all_goals (try dsimp only)
      · rw [u5 _ _ (by omega) (by omega) (by omega)]; exact a1
      · rw [f0 _ _ (by omega) (by omega)]; exact a2
      · rw [f0 _ _ (by omega) (by omega)]; exact a3
      · rw [f0 _ _ (by omega) (by omega)]; exact a4
      · rw [u5 _ _ (by omega) (by omega) (by omega), f0 _ _ (by omega) (by omega)]; exact a5
      · intro x hx
        rw [f0 _ _ (by omega) (by omega)]; exact a8 x hx
      · rw [f0 _ _ (by omega) (by omega)]; exact a9
      · intro x hx
        by_cases hxi : x = i
        · subst hxi
          exact ⟨_, _, _, _, _, _, ⟨r1, r2, r3, r4, r5, r6, hk1⟩, v1, cm2⟩
        · exact hk2 x hx hxi
      · intro x hx
        rw [f0 _ _ (by omega) (by omega), f0 _ _ (by omega) (by omega)]
        by_cases hxi : x = i
        · subst hxi
          rw [v3, v4]
          exact hF x hx
        · rw [u5 _ _ (by omega) (by omega) (by omega), u5 _ _ (by omega) (by omega) (by omega)]
          exact hF x hx
/-! a test that passed, on both sides -/
def nP (n : Nat) : Nat := sb (sb (sb n 0 0) 4 0) 6 0
theorem nP_c : ∀ n, n < 256 → sI n &&& (-82) = sI (nP n) := by decide +kernel
theorem nP_lt {n : Nat} (h : n < 256) : nP n < 256 := sb_lt _ (sb_lt _ (sb_lt _ h 0 (by omega) 0 (by omega)) 4 (by omega) 0 (by omega)) 6 (by omega) 0 (by omega)
theorem st_passed {fu : Nat} {A M : mwM} {L L2 : mwL} {N E i : Nat} {tm : Int32} (hf : 31 ≤ fu) (hE : E < 900000000) (hi : i < N) (h : RTr A M N E) : ∃ A' r M', DX10_notePassed fu (sI i) tm A L = some (A', L) ∧ DX18_event fu (sI (i + 1)) 0 M L2 = some (r, M', L2) ∧ RTr A' M' N (E + 1) ∧ A' 144 i = tm ∧ (∀ b j, ¬ (b = 139 ∧ j = 5) → ¬ (j = i ∧ 144 ≤ b ∧ b ≤ 147) → A' b j = A b j) ∧ (∀ b j, ¬ (902 ≤ b ∧ b ≤ 920) → M' b j = M b j) := by
  obtain ⟨hN, a1, a2, a3, a4, a5, a6, a7, a8, ⟨G, hG, a9⟩, a10, l, sd, ⟨b1, b2, b3, b4⟩, ⟨e1, e2, e3, t0, e4, e5, e6⟩, hF⟩ := h
  obtain ⟨n, p, t, a, g, k, hr, hc, hm⟩ := a10 i hi
  have hr' := hr
  obtain ⟨r1, r2, r3, r4, r5, r6, r7⟩ := hr'
  have hk1 := kP_lt r7
  have hn1 := nP_lt r1
  -- whatever the two sides have become: it fits
  have fit : ∀ (A' M' : mwM) (n' : Nat), n' < 256 → cc A' i n' p t a g (kP k) → cm M' i n' p t a g (kP k) → A' 139 5 = sI (E + 1) → M' 902 25 = sI (E + 1) → (∀ b j, ¬ (b = 139 ∧ j = 5) → ¬ (j = i ∧ 144 ≤ b ∧ b ≤ 147) → A' b j = A b j) → (∀ b j, ¬ (b = 902 ∧ (j = 0 ∨ j = 25)) → ¬ (b = 907 ∧ j = i + 1) → ¬ (b = 908 ∧ 8 * (i + 1) ≤ j ∧ j < 8 * (i + 1) + 8) → M' b j = M b j) → RTr A' M' N (E + 1) := by
    intro A' M' n' hn' h1 h2 h3 h4 h5 h6
    refine ⟨hN, ?_, ?_, ?_, ?_, ?_, h3, h4, ?_, ⟨G, hG, ?_⟩, ?_, l, sd, ⟨b1, b2, ?_, ?_⟩, ⟨?_, e2, e3, t0, by omega, ?_, e6⟩, ?_⟩
    all_goals (try dsimp only)
    · rw [h5 _ _ (by omega) (by omega)]; exact a1
    · rw [h6 _ _ (by omega) (by omega) (by omega)]; exact a2
    · rw [h6 _ _ (by omega) (by omega) (by omega)]; exact a3
    · rw [h6 _ _ (by omega) (by omega) (by omega)]; exact a4
    · rw [h5 _ _ (by omega) (by omega), h6 _ _ (by omega) (by omega) (by omega)]; exact a5
    · intro x hx
      rw [h6 _ _ (by omega) (by omega) (by omega)]; exact a8 x hx
    · rw [h6 _ _ (by omega) (by omega) (by omega)]; exact a9
    · intro x hx
      by_cases hxi : x = i
      · subst hxi
        exact ⟨_, _, _, _, _, _, ⟨hn', r2, r3, r4, r5, r6, hk1⟩, h1, h2⟩
      · obtain ⟨n', p', t', a', g', k', q1, q2, q3⟩ := a10 x hx
        exact ⟨n', p', t', a', g', k', q1, cc_f q2 (fun b h1 h2 => h5 b x (by omega) (by omega)), cm_f q3 (fun b hb => h6 _ _ (by omega) (by omega) (by omega)) (fun b hb => h6 _ _ (by omega) (by omega) (by omega))⟩
    · rw [h5 _ _ (by omega) (by omega)]; exact b3
    · intro e he
      rw [h5 _ _ (by omega) (by omega)]; exact b4 e he
    · intro x hx
      rw [h6 _ _ (by omega) (by omega) (by omega)]; exact e1 x hx
    · rw [h6 _ _ (by omega) (by omega) (by omega)]; exact e5
    · intro x hx
      rw [h5 _ _ (by omega) (by omega), h5 _ _ (by omega) (by omega), h6 _ _ (by omega) (by omega) (by omega), h6 _ _ (by omega) (by omega) (by omega)]
      exact hF x hx
  -- the class
  have hC : DX10_notePassed fu (sI i) tm A L = (if kP k = 0 then some (mset (mset (mset (mset A 144 i tm) 139 5 (sI (E + 1))) 147 i (sk (kP k))) 146 i (sI (nP n)), L) else some (mset (mset (mset A 144 i tm) 139 5 (sI (E + 1))) 147 i (sk (kP k)), L)) := by
    obtain ⟨c1, c2, c3, c4, c5, c6⟩ := hc
    unfold DX10_notePassed fX10_notePassed_b76
    simp (disch := omega) only [mlet, mck_s, sI_nn]
    rw [mset_k (a := 139) (by decide), a6, sI_1, mset_k (a := 147) (k := 139) (by decide), mset_k (a := 147) (k := 144) (by decide), c3, kP_c k r7]
    rw [show mset (mset (mset A 144 i tm) 139 5 (sI (E + 1))) 147 i (sk (kP k)) 147 i = sk (kP k) from mset_s]
    rw [mset_k (a := 146) (by decide), mset_k (a := 146) (by decide), mset_k (a := 146) (by decide), c2, nP_c n r1]
    by_cases hk : kP k = 0
    · rw [if_pos hk, if_pos ((sk_128 _ hk1).mpr hk)]
    · rw [if_neg hk, if_neg (fun h => hk ((sk_128 _ hk1).mp h))]
  -- the reference
  have hev : DX18_event fu (sI (i + 1)) 0 M L2 = (if kP k = 0 then some (sI (nP n), mset (mset (mset (mset (mset (mset M 902 0 0) 902 25 (sI (E + 1))) 907 (i + 1) (sk (kP k))) 908 (8 * (i + 1) + 0) (vp_nar .boolean 0)) 908 (8 * (i + 1) + 4) (vp_nar .boolean 0)) 908 (8 * (i + 1) + 6) (vp_nar .boolean 0), L2) else some (sI n, mset (mset (mset M 902 0 0) 902 25 (sI (E + 1))) 907 (i + 1) (sk (kP k)), L2)) := by
    obtain ⟨m1, m2, m3, m4, m5, m6, m7, m8, m9⟩ := hm
    have hkm := kP_m k r7
    unfold DX18_event fX18_event_b155 fX18_event_b190
    rw [m_none hN a2 hi, mb3_s, if_pos rfl, mset_j (a := 902) (b := 23) (by decide), a4, if_pos rfl]
    simp only [mlet]
    rw [off_32 _ (by omega), mck_s (by omega) (by omega), sI_nn (by omega), mset_k (a := 920) (by decide), mset_k (a := 920) (by decide), a8 _ (by omega), if_pos rfl, if_pos trivial]
    simp (disch := omega) only [mck_s]
    rw [mset_j (a := 902) (b := 25) (by decide), a7, sI_1, mset_k (a := 907) (by decide), mset_k (a := 907) (by decide), m3]
    simp only [mset_s]
    simp only [mset_k (show (905 : Nat) ≠ 902 by decide), m8]
    have hover : ∀ x y, mset (mset (mset (mset M 902 0 0) 902 25 (sI (E + 1))) 907 (i + 1) x) 907 (i + 1) y = mset (mset (mset M 902 0 0) 902 25 (sI (E + 1))) 907 (i + 1) y := by
      intro x y
      funext a b
      simp only [mset]
      split <;> rfl
    simp only [hover]
    have hd0 : dg (mset (mset (mset M 902 0 0) 902 25 (sI (E + 1))) 907 (i + 1) (sk (kP k))) (i + 1) n := dg_o (dg_o (dg_o m2 (by decide)) (by decide)) (by decide)
    have fin : ∀ x, x = sk (kP k) → (if x = (-128) then mb2 (DX18_set fu (sI (i + 1)) 0 0 (mset (mset (mset M 902 0 0) 902 25 (sI (E + 1))) 907 (i + 1) x) L2) (fun M23 L24 => mb2 (DX18_set fu (sI (i + 1)) 4 0 M23 L24) (fun M25 L26 => mb2 (DX18_set fu (sI (i + 1)) 6 0 M25 L26) (fun M27 L28 => fX18_event_b224 fu (sI (i + 1)) 0 M27 L28))) else fX18_event_b224 fu (sI (i + 1)) 0 (mset (mset (mset M 902 0 0) 902 25 (sI (E + 1))) 907 (i + 1) x) L2) = (if kP k = 0 then some (sI (nP n), mset (mset (mset (mset (mset (mset M 902 0 0) 902 25 (sI (E + 1))) 907 (i + 1) (sk (kP k))) 908 (8 * (i + 1) + 0) (vp_nar .boolean 0)) 908 (8 * (i + 1) + 4) (vp_nar .boolean 0)) 908 (8 * (i + 1) + 6) (vp_nar .boolean 0), L2) else some (sI n, mset (mset (mset M 902 0 0) 902 25 (sI (E + 1))) 907 (i + 1) (sk (kP k)), L2)) := by
      intro x hx
      subst hx
      by_cases hk : kP k = 0
      · rw [if_pos hk, if_pos ((sk_128 _ hk1).mpr hk), m_set (by omega) (by omega), mb2_s, m_set (by omega) (by omega), mb2_s, m_set (by omega) (by omega), mb2_s]
        have d0 := dg_set (b := 0) (v := 0) hd0 r1 (by omega) (by omega) bo_0
        have s0 := sb_lt n r1 0 (by omega) 0 (by omega)
        have d4 := dg_set (b := 4) (v := 0) d0 s0 (by omega) (by omega) bo_0
        have s4 := sb_lt _ s0 4 (by omega) 0 (by omega)
        have d6 := dg_set (b := 6) (v := 0) d4 s4 (by omega) (by omega) bo_0
        unfold fX18_event_b224
        rw [m_statusOf d6 hn1 (by omega) (by omega), mb3_s]
        rfl
      · rw [if_neg hk, if_neg (fun h => hk ((sk_128 _ hk1).mp h))]
        unfold fX18_event_b224
        rw [m_statusOf hd0 r1 (by omega) (by omega), mb3_s]
    by_cases h0 : sk k ≤ 0
    · simp only [if_pos h0] at hkm ⊢
      by_cases h1 : (-128) ≤ sk k - 127
      · rw [if_pos h1] at hkm ⊢
        exact fin _ hkm
      · rw [if_neg h1] at hkm ⊢
        exact fin _ hkm
    · simp only [if_neg h0] at hkm ⊢
      by_cases h1 : (-128) ≤ (0 : Int32) - 127
      · rw [if_pos h1] at hkm ⊢
        exact fin _ hkm
      · exact absurd (by decide) h1
  have h147 : ∀ x y, mset (mset (mset A 144 i tm) 139 5 x) 147 i y 144 i = tm := fun x y => by rw [mset_k (by decide), mset_k (by decide), mset_s]
  by_cases hk : kP k = 0
  · rw [if_pos hk] at hC hev
    refine ⟨_, _, _, hC, hev, fit _ _ (nP n) hn1 ?_ ?_ ?_ ?_ ?_ ?_, ?_, ?_, ?_⟩
    all_goals (try dsimp only)
    · obtain ⟨c1, c2, c3, c4, c5, c6⟩ := hc
      refine ⟨?_, ?_, ?_, ?_, ?_, ?_⟩ <;> simp [mset, *]
    · obtain ⟨m1, m2, m3, m4, m5, m6, m7, m8, m9⟩ := hm
      have hd0 : dg (mset (mset (mset M 902 0 0) 902 25 (sI (E + 1))) 907 (i + 1) (sk (kP k))) (i + 1) n := dg_o (dg_o (dg_o m2 (by decide)) (by decide)) (by decide)
      have d0 := dg_set (b := 0) (v := 0) hd0 r1 (by omega) (by omega) bo_0
      have s0 := sb_lt n r1 0 (by omega) 0 (by omega)
      have d4 := dg_set (b := 4) (v := 0) d0 s0 (by omega) (by omega) bo_0
      have s4 := sb_lt _ s0 4 (by omega) 0 (by omega)
      have d6 := dg_set (b := 6) (v := 0) d4 s4 (by omega) (by omega) bo_0
      refine ⟨?_, d6, ?_, ?_, ?_, ?_, ?_, ?_, ?_⟩ <;> simp [mset, *]
    · simp [mset]
    · simp [mset]
    · intro b j h1 h2
      rw [mset_n (by omega), mset_n (by omega), mset_n (by omega), mset_n (by omega)]
    · intro b j h1 h2 h3
      rw [mset_n (by omega), mset_n (by omega), mset_n (by omega), mset_n (by omega), mset_n (by omega), mset_n (by omega)]
    · rw [mset_k (by decide)]; exact h147 _ _
    · intro b j h1 h2
      rw [mset_n (by omega), mset_n (by omega), mset_n (by omega), mset_n (by omega)]
    · intro b j h1
      rw [mset_n (by omega), mset_n (by omega), mset_n (by omega), mset_n (by omega), mset_n (by omega), mset_n (by omega)]
  · rw [if_neg hk] at hC hev
    refine ⟨_, _, _, hC, hev, fit _ _ n r1 ?_ ?_ ?_ ?_ ?_ ?_, h147 _ _, ?_, ?_⟩
    all_goals (try dsimp only)
    · obtain ⟨c1, c2, c3, c4, c5, c6⟩ := hc
      refine ⟨?_, ?_, ?_, ?_, ?_, ?_⟩ <;> simp [mset, *]
    · obtain ⟨m1, m2, m3, m4, m5, m6, m7, m8, m9⟩ := hm
      have hd0 : dg (mset (mset (mset M 902 0 0) 902 25 (sI (E + 1))) 907 (i + 1) (sk (kP k))) (i + 1) n := dg_o (dg_o (dg_o m2 (by decide)) (by decide)) (by decide)
      refine ⟨?_, hd0, ?_, ?_, ?_, ?_, ?_, ?_, ?_⟩ <;> simp [mset, *]
    · simp [mset]
    · simp [mset]
    · intro b j h1 h2
      rw [mset_n (by omega), mset_n (by omega), mset_n (by omega)]
    · intro b j h1 h2 h3
      rw [mset_n (by omega), mset_n (by omega), mset_n (by omega)]
    · intro b j h1 h2
      rw [mset_n (by omega), mset_n (by omega), mset_n (by omega)]
    · intro b j h1
      rw [mset_n (by omega), mset_n (by omega), mset_n (by omega)]
