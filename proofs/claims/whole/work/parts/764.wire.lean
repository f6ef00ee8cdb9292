/-! which frame goes first -/
theorem pre_s (x m : Nat) : x / 2 ^ m = 2 * (x / 2 ^ (m + 1)) + x / 2 ^ m % 2 := by
  rw [Nat.pow_succ, ← Nat.div_div_eq_div_mul]
  omega
theorem bits_p {a b n : Nat} (ha : a < 2 ^ n) (hb : b < 2 ^ n) : ∀ k, k ≤ n → (∀ i, i < k → a / 2 ^ (n - 1 - i) % 2 = b / 2 ^ (n - 1 - i) % 2) → a / 2 ^ (n - k) = b / 2 ^ (n - k) := by
  intro k
  induction k with
  | zero =>
    intro _ _
    rw [Nat.sub_zero, Nat.div_eq_of_lt ha, Nat.div_eq_of_lt hb]
  | succ k ih =>
    intro hk h
    have i1 := ih (by omega) (fun i u => h i (by omega))
    have i2 := h k (by omega)
    rw [show n - 1 - k = n - (k + 1) by omega] at i2
    have p1 := pre_s a (n - (k + 1))
    have p2 := pre_s b (n - (k + 1))
    rw [show n - (k + 1) + 1 = n - k by omega] at p1 p2
    omega
theorem bits_e {a b n : Nat} (ha : a < 2 ^ n) (hb : b < 2 ^ n) (h : ∀ i, i < n → a / 2 ^ (n - 1 - i) % 2 = b / 2 ^ (n - 1 - i) % 2) : a = b := by
  have := bits_p ha hb n (Nat.le_refl n) h
  rw [Nat.sub_self, Nat.pow_zero, Nat.div_one, Nat.div_one] at this
  exact this
theorem bits_l {a b n k : Nat} (ha : a < 2 ^ n) (hb : b < 2 ^ n) (hk : k < n) (h : ∀ i, i < k → a / 2 ^ (n - 1 - i) % 2 = b / 2 ^ (n - 1 - i) % 2) (hl : a / 2 ^ (n - 1 - k) % 2 < b / 2 ^ (n - 1 - k) % 2) : a < b := by
  have i1 := bits_p ha hb k (by omega) h
  have p1 := pre_s a (n - 1 - k)
  have p2 := pre_s b (n - 1 - k)
  rw [show n - 1 - k + 1 = n - k by omega] at p1 p2
  by_cases c : a < b
  · exact c
  · exfalso
    have : b / 2 ^ (n - 1 - k) ≤ a / 2 ^ (n - 1 - k) := Nat.div_le_div_right (by omega)
    omega
/-- by identifiers, then by octets -/
def obef (o p : Nat → Nat) : Nat → Bool
  | 0 => false
  | m + 1 => if o (7 - m) = p (7 - m) then obef o p m else decide (o (7 - m) < p (7 - m))
def bef (id1 id2 : Nat) (o p : Nat → Nat) : Bool := if id1 = id2 then obef o p 8 else decide (id1 < id2)
theorem obef_e {o p : Nat → Nat} : ∀ m, m ≤ 8 → (∀ i, 8 - m ≤ i → i < 8 → o i = p i) → obef o p m = false := by
  intro m
  induction m with
  | zero => intro _ _; rfl
  | succ m ih =>
    intro hm h
    unfold obef
    rw [if_pos (h (7 - m) (by omega) (by omega))]
    exact ih (by omega) (fun i u1 u2 => h i (by omega) u2)
theorem obef_k {o p : Nat → Nat} {k : Nat} (hk : k < 8) (hn : o k ≠ p k) : ∀ m, 8 - m ≤ k → m ≤ 8 → (∀ i, 8 - m ≤ i → i < k → o i = p i) → obef o p m = decide (o k < p k) := by
  intro m
  induction m with
  | zero => intro h1 h2; omega
  | succ m ih =>
    intro h1 h2 h
    unfold obef
    by_cases c : 7 - m = k
    · rw [c, if_neg hn]
    · rw [if_pos (h (7 - m) (by omega) (by omega))]
      exact ih (by omega) (by omega) (fun i u1 u2 => h i (by omega) u2)
theorem pb_id {id : Nat} {o : Nat → Nat} {i : Nat} (hi : i < 11) : pbF id o (1 + i) = id / 2 ^ (11 - 1 - i) % 2 := by
  unfold pbF
  rw [if_pos (by omega), if_pos (by omega), show 11 - (1 + i) = 11 - 1 - i by omega]
theorem pb_oc {id : Nat} {o : Nat → Nat} {j i : Nat} (hi : i < 8) : pbF id o (19 + 8 * j + i) = o j / 2 ^ (8 - 1 - i) % 2 := by
  unfold pbF
  rw [if_neg (by omega), show (19 + 8 * j + i - 19) / 8 = j by omega, show 7 - (19 + 8 * j + i - 19) % 8 = 8 - 1 - i by omega]
theorem pb_o {id1 id2 : Nat} {o p : Nat → Nat} {i : Nat} (hi : i < 19) (h2 : i < 1 ∨ 11 < i) : pbF id1 o i = pbF id2 p i := by
  unfold pbF
  have nn : ¬ (1 ≤ i ∧ i ≤ 11) := by omega
  rw [if_pos hi, if_pos hi, if_neg nn, if_neg nn]
/-- the first bit that differs decides -/
theorem bef_k {id1 id2 k : Nat} {o p : Nat → Nat} (h1 : id1 < 2048) (h2 : id2 < 2048) (ho : ∀ i, i < 8 → o i < 256) (hp : ∀ i, i < 8 → p i < 256) (hk : k < 83) (he : ∀ i, i < k → pbF id1 o i = pbF id2 p i) (hn : pbF id1 o k ≠ pbF id2 p k) : bef id1 id2 o p = decide (pbF id1 o k < pbF id2 p k) := by
  have ids : 12 ≤ k → id1 = id2 := fun z => bits_e (n := 11) h1 h2 (fun i u => by rw [← pb_id (o := o) u, ← pb_id (o := p) u]; exact he _ (by omega))
  unfold bef
  by_cases c : k < 19
  · have kr : 1 ≤ k ∧ k ≤ 11 := by
      by_cases z : k < 1 ∨ 11 < k
      · exact absurd (pb_o c z) hn
      · omega
    have e1 := pb_id (id := id1) (o := o) (i := k - 1) (by omega)
    have e2 := pb_id (id := id2) (o := p) (i := k - 1) (by omega)
    rw [show 1 + (k - 1) = k by omega] at e1 e2
    have pre : ∀ i, i < k - 1 → id1 / 2 ^ (11 - 1 - i) % 2 = id2 / 2 ^ (11 - 1 - i) % 2 := fun i u => by
      rw [← pb_id (o := o) (by omega), ← pb_id (o := p) (by omega)]
      exact he _ (by omega)
    have b1 := pbF_lt id1 o k
    have b2 := pbF_lt id2 p k
    by_cases l : pbF id1 o k < pbF id2 p k
    · have := bits_l (n := 11) h1 h2 (k := k - 1) (by omega) pre (by rw [← e1, ← e2]; exact l)
      rw [if_neg (by omega), decide_eq_true this, decide_eq_true l]
    · have := bits_l (n := 11) h2 h1 (k := k - 1) (by omega) (fun i u => (pre i u).symm) (by rw [← e1, ← e2]; omega)
      rw [if_neg (by omega), decide_eq_false (by omega), decide_eq_false l]
  · rw [if_pos (ids (by omega))]
    obtain ⟨j, i, hi, hk2⟩ : ∃ j i, i < 8 ∧ k = 19 + 8 * j + i := ⟨(k - 19) / 8, (k - 19) % 8, Nat.mod_lt _ (by decide), by omega⟩
    have hj : j < 8 := by omega
    have e1 := pb_oc (id := id1) (o := o) (j := j) hi
    have e2 := pb_oc (id := id2) (o := p) (j := j) hi
    rw [← hk2] at e1 e2
    have pre : ∀ t, t < i → o j / 2 ^ (8 - 1 - t) % 2 = p j / 2 ^ (8 - 1 - t) % 2 := fun t u => by
      rw [← pb_oc (id := id1) (o := o) (j := j) (by omega), ← pb_oc (id := id2) (o := p) (j := j) (by omega)]
      exact he _ (by omega)
    have eq : ∀ t, t < j → o t = p t := fun t u => bits_e (n := 8) (ho t (by omega)) (hp t (by omega)) (fun w v => by
      rw [← pb_oc (id := id1) (o := o) (j := t) v, ← pb_oc (id := id2) (o := p) (j := t) v]
      exact he _ (by omega))
    have b1 := pbF_lt id1 o k
    have b2 := pbF_lt id2 p k
    have key : o j ≠ p j ∧ decide (o j < p j) = decide (pbF id1 o k < pbF id2 p k) := by
      by_cases l : pbF id1 o k < pbF id2 p k
      · have := bits_l (n := 8) (ho j hj) (hp j hj) hi pre (by rw [← e1, ← e2]; exact l)
        rw [decide_eq_true this, decide_eq_true l]
        exact ⟨by omega, rfl⟩
      · have := bits_l (n := 8) (hp j hj) (ho j hj) hi (fun t u => (pre t u).symm) (by rw [← e1, ← e2]; omega)
        rw [decide_eq_false (show ¬ o j < p j by omega), decide_eq_false l]
        exact ⟨by omega, rfl⟩
    rw [← key.2]
    exact obef_k hj key.1 8 (by omega) (by omega) (fun t u1 u2 => eq t u2)
theorem bef_e {id1 id2 : Nat} {o p : Nat → Nat} (h1 : id1 < 2048) (h2 : id2 < 2048) (ho : ∀ i, i < 8 → o i < 256) (hp : ∀ i, i < 8 → p i < 256) (he : ∀ i, i < 83 → pbF id1 o i = pbF id2 p i) : bef id1 id2 o p = false := by
  unfold bef
  rw [if_pos (bits_e (n := 11) h1 h2 (fun i u => by rw [← pb_id (o := o) u, ← pb_id (o := p) u]; exact he _ (by omega)))]
  refine obef_e 8 (by omega) (fun t _ u => bits_e (n := 8) (ho t u) (hp t u) (fun w v => ?_))
  rw [← pb_oc (id := id1) (o := o) (j := t) v, ← pb_oc (id := id2) (o := p) (j := t) v]
  exact he _ (by omega)
def FrC (A : mwM) (F : Nat) (ow id : Nat → Nat) (oc : Nat → Nat → Nat) (dn : Nat → Nat) : Prop := A 20 9 = sI F ∧ F ≤ 200 ∧ ∀ f, f < F → A 43 f = sI (ow f) ∧ ow f < 7 ∧ A 44 f = sI (id f) ∧ id f < 2048 ∧ A 45 f = sI (dn f) ∧ dn f < 2 ∧ ∀ i, i < 8 → A 46 (8 * f + i) = sI (oc f i) ∧ oc f i < 256
def FrM (M : mwM) (F : Nat) (ow id : Nat → Nat) (oc : Nat → Nat → Nat) (dn : Nat → Nat) : Prop := M 821 4 = sI F ∧ F ≤ 200 ∧ ∀ f, f < F → M 823 f = sI (ow f) ∧ ow f < 7 ∧ id f < 2048 ∧ M 828 f = sI (dn f) ∧ dn f < 2 ∧ FrM1 M f (id f) (oc f)
theorem c_isBefore0 {fu F f g : Nat} {ow id dn : Nat → Nat} {oc : Nat → Nat → Nat} {A : mwM} {L : mwL} (hfu : 10 ≤ fu) (hC : FrC A F ow id oc dn) (hf : f < F) (hg : g < F) : DX0_isBefore fu (sI f) (sI g) A L = some (bI (bef (id f) (id g) (oc f) (oc g)), A, L) := by
  obtain ⟨h9, hF, hA⟩ := hC
  obtain ⟨_, _, a3, a4, _, _, a7⟩ := hA f hf
  obtain ⟨_, _, b3, b4, _, _, b7⟩ := hA g hg
  unfold DX0_isBefore fX0_isBefore_b43 bef
  simp only [mzz_0, mzz_1]
  rw [mck_s (by omega) (by omega), mck_s (by omega) (by omega), mck_s (by omega) (by omega), mck_s (by omega) (by omega), sI_nn (by omega), sI_nn (by omega), a3, b3]
  by_cases c : id f = id g
  · rw [if_pos (by rw [c]), if_pos c]
    have key : ∀ (m fz : Nat), m ≤ 8 → m < fz → fX0_isBefore_h46 fu (sI f) (sI g) fz (sI (8 - m), A, L) = some (bI (obef (oc f) (oc g) m), A, L) := by
      intro m
      induction m with
      | zero =>
        intro fz hm hf1
        obtain ⟨z, rfl⟩ : ∃ z, fz = z + 1 := ⟨fz - 1, by omega⟩
        unfold fX0_isBefore_h46
        rw [mloop_S]
        show fX0_isBefore_i46 fu (sI f) (sI g) _ (sI 8) A L = _
        unfold fX0_isBefore_i46
        rw [if_pos (by decide)]
        rfl
      | succ m ih =>
        intro fz hm hf1
        obtain ⟨z, rfl⟩ : ∃ z, fz = z + 1 := ⟨fz - 1, by omega⟩
        unfold fX0_isBefore_h46
        rw [mloop_S]
        show fX0_isBefore_i46 fu (sI f) (sI g) (fX0_isBefore_h46 fu (sI f) (sI g) z) (sI (8 - (m + 1))) A L = _
        rw [show 8 - (m + 1) = 7 - m by omega]
        unfold fX0_isBefore_i46 fX0_isBefore_b107 obef
        simp only [mzz_0, mzz_1]
        obtain ⟨o1, o2⟩ := a7 (7 - m) (by omega)
        obtain ⟨p1, p2⟩ := b7 (7 - m) (by omega)
        rw [if_neg (by rw [sI_lle (by decide) (by omega)]; omega), sI_lml, sI_lml, sI_add, sI_add, mck_s (by omega) (by omega), mck_s (by omega) (by omega), mck_s (by omega) (by omega), mck_s (by omega) (by omega), sI_nn (by omega), sI_nn (by omega), o1, p1]
        simp only [mlet]
        rw [sI_1]
        by_cases d : oc f (7 - m) = oc g (7 - m)
        · rw [if_pos (by rw [d]), if_pos d]
          have := ih z (by omega) (by omega)
          rw [show 8 - m = 7 - m + 1 by omega] at this
          exact this
        · rw [if_neg (by rw [sI_eq (by omega) (by omega)]; exact d), if_neg d]
          by_cases e : oc f (7 - m) < oc g (7 - m)
          · rw [if_neg (by rw [sI_le (by omega) (by omega)]; omega), decide_eq_true e]
            rfl
          · rw [if_pos (by rw [sI_le (by omega) (by omega)]; omega), decide_eq_false e]
            rfl
    exact key 8 fu (by omega) (by omega)
  · rw [if_neg (by rw [sI_eq (by omega) (by omega)]; exact c), if_neg c]
    by_cases e : id f < id g
    · rw [if_neg (by rw [sI_le (by omega) (by omega)]; omega), decide_eq_true e]
      rfl
    · rw [if_pos (by rw [sI_le (by omega) (by omega)]; omega), decide_eq_false e]
      rfl
/-- the frame that goes first: 0 is none, f + 1 is f -/
def fsF (ow id : Nat → Nat) (oc : Nat → Nat → Nat) (dn : Nat → Nat) (n : Nat) : Nat → Nat
  | 0 => 0
  | f + 1 => if ow f = n ∧ dn f = 0 then (if fsF ow id oc dn n f = 0 then f + 1 else if bef (id f) (id (fsF ow id oc dn n f - 1)) (oc f) (oc (fsF ow id oc dn n f - 1)) = true then f + 1 else fsF ow id oc dn n f) else fsF ow id oc dn n f
theorem fsF_s {ow id dn : Nat → Nat} {oc : Nat → Nat → Nat} {n f : Nat} : fsF ow id oc dn n (f + 1) = if ow f = n ∧ dn f = 0 then (if fsF ow id oc dn n f = 0 then f + 1 else if bef (id f) (id (fsF ow id oc dn n f - 1)) (oc f) (oc (fsF ow id oc dn n f - 1)) = true then f + 1 else fsF ow id oc dn n f) else fsF ow id oc dn n f := rfl
theorem fsF_le {ow id dn : Nat → Nat} {oc : Nat → Nat → Nat} {n : Nat} : ∀ f, fsF ow id oc dn n f ≤ f ∧ (fsF ow id oc dn n f ≠ 0 → ow (fsF ow id oc dn n f - 1) = n ∧ dn (fsF ow id oc dn n f - 1) = 0) := by
  intro f
  induction f with
  | zero => exact ⟨Nat.le_refl _, fun h => absurd rfl h⟩
  | succ f ih =>
    unfold fsF
    split
    · rename_i c
      split
      · exact ⟨Nat.le_refl _, fun _ => c⟩
      · split
        · exact ⟨Nat.le_refl _, fun _ => c⟩
        · exact ⟨by omega, ih.2⟩
    · exact ⟨by omega, ih.2⟩
def fI (x : Nat) : Int32 := if x = 0 then -1 else sI (x - 1)
theorem c_beginSending {fu F n : Nat} {ow id dn : Nat → Nat} {oc : Nat → Nat → Nat} {A : mwM} {L : mwL} (hfu : 300 ≤ fu) (hn : n < 7) (hC : FrC A F ow id oc dn) (hw : fsF ow id oc dn n F ≠ 0) : wq (DX0_beginSending fu (sI n) A L) (fun z => z.2 = L ∧ z.1 25 n = sI 1 ∧ z.1 27 n = sI (fsF ow id oc dn n F - 1) ∧ z.1 28 n = sI 0 ∧ WvR z.1 n (fbF (id (fsF ow id oc dn n F - 1)) (oc (fsF ow id oc dn n F - 1))) ∧ ∀ a y, a ≠ 34 + n → ¬ ((a = 25 ∨ a = 27 ∨ a = 28 ∨ a = 29) ∧ y = n) → z.1 a y = A a y) := by
  have hC' := hC
  obtain ⟨h9, hF, hA⟩ := hC'
  unfold DX0_beginSending
  refine wq_for (body := fun r z => fX0_beginSending_i4 fu (sI n) r z.1 z.2.1 z.2.2.1 z.2.2.2) (fun f (x : mwM) => (fI (fsF ow id oc dn n f), sI f, x, L)) (fun f x => x = A) F ?_ ?_ F 0 A fu (by omega) (by omega) rfl
  · intro f x r hf hx ih
    subst hx
    show wq (fX0_beginSending_i4 fu (sI n) r (fI (fsF ow id oc dn n f)) (sI f) x L) _
    obtain ⟨a1, a2, a3, a4, a5, a6, a7⟩ := hA f hf
    have le := (fsF_le (ow := ow) (id := id) (dn := dn) (oc := oc) (n := n) f)
    unfold fX0_beginSending_i4 fX0_beginSending_b48 fX0_beginSending_b50
    simp only [mlet]
    rw [h9, if_neg (by rw [sI_le (by omega) (by omega)]; omega), mck_s (by omega) (by omega), mck_s (by omega) (by omega), sI_nn (by omega), a1, a5, sI_1]
    have nx := ih x rfl
    rw [fsF_s] at nx
    by_cases c1 : ow f = n
    · rw [if_pos (by rw [c1])]
      by_cases c2 : dn f = 0
      · rw [if_pos (show sI (dn f) = 0 by rw [c2]; rfl)]
        rw [if_pos ⟨c1, c2⟩] at nx
        by_cases c3 : fsF ow id oc dn n f = 0
        · rw [c3, if_pos (show fI 0 < 0 by decide)]
          rw [if_pos c3] at nx
          exact nx
        · have ef : fI (fsF ow id oc dn n f) = sI (fsF ow id oc dn n f - 1) := if_neg c3
          rw [if_neg c3] at nx
          rw [ef, if_neg (show ¬ sI (fsF ow id oc dn n f - 1) < 0 by rw [sI_ltl (by omega) (by decide)]; omega), c_isBefore0 (L := L) (by omega) hC hf (show fsF ow id oc dn n f - 1 < F by omega), mb3_s]
          cases hb : bef (id f) (id (fsF ow id oc dn n f - 1)) (oc f) (oc (fsF ow id oc dn n f - 1)) with
          | false =>
            rw [hb, if_neg (by decide)] at nx
            rw [if_pos (show bI false = 0 from rfl)]
            rw [ef] at nx
            exact nx
          | true =>
            rw [hb, if_pos rfl] at nx
            rw [if_neg (show ¬ bI true = 0 by decide)]
            exact nx
      · rw [if_neg (show ¬ sI (dn f) = 0 by rw [sI_eql (by omega) (by decide)]; exact c2)]
        rw [if_neg (fun z => c2 z.2)] at nx
        exact nx
    · rw [if_neg (show ¬ sI (ow f) = sI n by rw [sI_eq (by omega) (by omega)]; exact c1)]
      rw [if_neg (fun z => c1 z.1)] at nx
      exact nx
  · intro x r hx
    subst hx
    show wq (fX0_beginSending_i4 fu (sI n) r (fI (fsF ow id oc dn n F)) (sI F) x L) _
    have le := (fsF_le (ow := ow) (id := id) (dn := dn) (oc := oc) (n := n) F)
    generalize fsF ow id oc dn n F = g at *
    have ef : fI g = sI (g - 1) := if_neg hw
    unfold fX0_beginSending_i4
    rw [h9, if_pos (by rw [sI_le (by omega) (by omega)]; omega), ef, if_neg (show ¬ sI (g - 1) < 0 by rw [sI_ltl (by omega) (by decide)]; omega)]
    simp only [mlet]
    simp (disch := omega) only [mck_s, sI_nn, mset_n, mset_s, mb2_id]
    obtain ⟨a1, a2, a3, a4, a5, a6, a7⟩ := hA (g - 1) (by omega)
    refine wq_mono (c_layOut (f := g - 1) (id := id (g - 1)) (oc := oc (g - 1)) (by omega) hn (by omega) (by simp (disch := omega) only [mset_n]; exact a3) a4 (fun j u => by simp (disch := omega) only [mset_n]; exact a7 j u)) ?_
    rintro z ⟨z1, z2, z3⟩
    refine ⟨z1, ?_, ?_, ?_, z2, fun a y u1 u2 => ?_⟩
    · rw [z3 25 n (by omega) (by omega)]
      simp (disch := omega) only [mset_n, mset_s]
      try rfl
    · rw [z3 27 n (by omega) (by omega)]
      simp (disch := omega) only [mset_n, mset_s]
    · rw [z3 28 n (by omega) (by omega)]
      simp (disch := omega) only [mset_n, mset_s]
      try rfl
    · rw [z3 a y u1 (by omega)]
      simp (disch := omega) only [mset_n]
