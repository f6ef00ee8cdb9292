/-! CODES: the cipher as both sides make it, on octets -/
theorem sI_xor (a b : Nat) : sI a ^^^ sI b = sI (a ^^^ b) := by
  apply Int32.toBitVec_inj.mp
  show BitVec.ofNat 32 a ^^^ BitVec.ofNat 32 b = BitVec.ofNat 32 (a ^^^ b)
  rw [BitVec.ofNat_xor]
theorem xor_8 {a b : Nat} (ha : a < 256) (hb : b < 256) : a ^^^ b < 256 := Nat.xor_lt_two_pow (n := 8) ha hb
def sft (i : Nat) : Nat := (i + 4 * (i % 4)) % 16
def col (i k : Nat) : Nat := i / 4 * 4 + (i + k) % 4
/-- one round: octets replaced and moved, mixed (but in the last), the round's key -/
def rnd (S D : Nat → Nat) (last : Bool) (k x : Nat → Nat) (i : Nat) : Nat :=
  (if last = true then S (x (sft i)) else D (S (x (sft (col i 0)))) ^^^ D (S (x (sft (col i 1)))) ^^^ S (x (sft (col i 1))) ^^^ S (x (sft (col i 2))) ^^^ S (x (sft (col i 3)))) ^^^ k i
def encN (S D rk : Nat → Nat) (x : Nat → Nat) : Nat → Nat → Nat
  | 0 => fun i => x i ^^^ rk i
  | j + 1 => rnd S D (decide (j + 1 = 10)) (fun i => rk (16 * (j + 1) + i)) (encN S D rk x j)
theorem col_0 : ∀ i, i < 16 → col i 0 = i := by decide
theorem col_lt : ∀ i, i < 16 → ∀ k, k < 4 → col i k < 16 := by decide
theorem sft_lt (i : Nat) : sft i < 16 := Nat.mod_lt _ (by decide)
theorem rnd_lt {S D k x : Nat → Nat} {last : Bool} {i : Nat} (hS : ∀ y, y < 256 → S y < 256) (hD : ∀ y, y < 256 → D y < 256) (hk : k i < 256) (hx : ∀ i, i < 16 → x i < 256) : rnd S D last k x i < 256 := by
  have hs : ∀ i, S (x (sft i)) < 256 := fun i => hS _ (hx _ (sft_lt i))
  unfold rnd
  refine xor_8 ?_ hk
  split
  · exact hs i
  · exact xor_8 (xor_8 (xor_8 (xor_8 (hD _ (hs _)) (hD _ (hs _))) (hs _)) (hs _)) (hs _)
theorem encN_lt {S D rk x : Nat → Nat} (hS : ∀ y, y < 256 → S y < 256) (hD : ∀ y, y < 256 → D y < 256) (hk : ∀ i, i < 176 → rk i < 256) (hx : ∀ i, i < 16 → x i < 256) : ∀ j, j ≤ 10 → ∀ i, i < 16 → encN S D rk x j i < 256 := by
  intro j
  induction j with
  | zero => intro _ i hi; exact xor_8 (hx i hi) (hk i (by omega))
  | succ j ih => intro hj i hi; exact rnd_lt hS hD (hk _ (by omega)) (ih (by omega))
/-- octets in a row of the memory -/
abbrev bytes (M : mwM) (r n : Nat) (x : Nat → Nat) : Prop := ∀ i, i < n → M r i = sI (x i) ∧ x i < 256
theorem ix_sft : ∀ i, i < 16 → (sI i + (4 * (sI i - sI i / 4 * 4))) - (sI i + (4 * (sI i - sI i / 4 * 4))) / 16 * 16 = sI (sft i) := by decide +kernel
theorem ix_col : ∀ i, i < 16 → sI i / 4 * 4 + (sI i + 1 - (sI i + 1) / 4 * 4) = sI (col i 1) ∧ sI i / 4 * 4 + (sI i + 2 - (sI i + 2) / 4 * 4) = sI (col i 2) ∧ sI i / 4 * 4 + (sI i + 3 - (sI i + 3) / 4 * 4) = sI (col i 3) := by decide +kernel
/-- the class: one block -/
theorem c_encrypt {fu : Nat} {A : mwM} {L : mwL} {key : Nat} {S D rk x : Nat → Nat} (hf : 17 ≤ fu) (hkey : key < 17) (hS : bytes A 98 256 S) (hD : bytes A 99 256 D) (hk : bytes A (101 + key) 176 rk) (hx : bytes A 137 16 x) : wq (DX3_encrypt fu (sI key) A L) (fun q => q.2 = L ∧ bytes q.1 138 16 (encN S D rk x 10) ∧ ∀ b y, b ≠ 137 → b ≠ 138 → q.1 b y = A b y) := by
  have hS' : ∀ y, y < 256 → S y < 256 := fun y hy => (hS y hy).2
  have hD' : ∀ y, y < 256 → D y < 256 := fun y hy => (hD y hy).2
  have hk' : ∀ i, i < 176 → rk i < 256 := fun i hi => (hk i hi).2
  have hx' : ∀ i, i < 16 → x i < 256 := fun i hi => (hx i hi).2
  have he := encN_lt hS' hD' hk' hx'
  -- the rounds
  have rounds : ∀ (A1 : mwM), bytes A1 138 16 (encN S D rk x 0) → (∀ b y, b ≠ 137 → b ≠ 138 → A1 b y = A b y) → wq (fX3_encrypt_h39 fu (sI key) fu (101 + key, 1, A1, L)) (fun q => q.2 = L ∧ bytes q.1 138 16 (encN S D rk x 10) ∧ ∀ b y, b ≠ 137 → b ≠ 138 → q.1 b y = A b y) := by
    intro A1 h1 h2
    refine wq_for (body := fun r s => fX3_encrypt_i39 fu (sI key) r s.1 s.2.1 s.2.2.1 s.2.2.2) (fun j (a : mwM) => (101 + key, sI (j + 1), a, L)) (fun j a => bytes a 138 16 (encN S D rk x j) ∧ ∀ b y, b ≠ 137 → b ≠ 138 → a b y = A b y) 10 ?_ ?_ 10 0 A1 fu (by omega) (by omega) ⟨h1, h2⟩
    · intro j a r hj ⟨p1, p2⟩ ih
      show wq (fX3_encrypt_i39 fu (sI key) r (101 + key) (sI (j + 1)) a L) _
      unfold fX3_encrypt_i39
      rw [if_neg (by rw [sI_llt (by omega) (by omega)]; omega)]
      -- octets replaced and moved
      refine wq_for (body := fun r48 s => fX3_encrypt_i48 fu (sI key) r r48 s.1 s.2.1 s.2.2.1 s.2.2.2.1 s.2.2.2.2) (fun i (a2 : mwM) => (101 + key, sI (j + 1), sI i, a2, L)) (fun i a2 => (∀ y, y < i → a2 137 y = sI (S (encN S D rk x j (sft y)))) ∧ bytes a2 138 16 (encN S D rk x j) ∧ ∀ b y, b ≠ 137 → b ≠ 138 → a2 b y = A b y) 16 ?_ ?_ 16 0 a fu (by omega) (by omega) ⟨fun y hy => by omega, p1, p2⟩
      · intro i a2 r48 hi ⟨s1, s2, s3⟩ ih2
        show wq (fX3_encrypt_i48 fu (sI key) r r48 (101 + key) (sI (j + 1)) (sI i) a2 L) _
        unfold fX3_encrypt_i48
        have hsl := sft_lt i
        have hel := he j (by omega) (sft i) hsl
        rw [if_neg (by rw [sI_lle (by omega) (by omega)]; omega), ix_sft i hi, mck_s hsl (by omega), sI_nn (by omega), (s2 (sft i) hsl).1, mck_s hel (by omega), mck_s (by omega) (by omega), sI_nn (by omega), sI_nn (by omega), s3 98 _ (by omega) (by omega), (hS _ hel).1]
        simp only [mlet]
        rw [sI_1]
        refine ih2 (mset a2 137 i (sI (S (encN S D rk x j (sft i))))) ⟨?_, ?_, ?_⟩
        · intro y hy
          by_cases hyi : y = i
          · rw [hyi, mset_s]
          · rw [mset_j hyi]; exact s1 y (by omega)
        · intro y hy
          rw [mset_k (by decide)]; exact s2 y hy
        · intro b y q1 q2
          rw [mset_k q1]; exact s3 b y q1 q2
      · intro a2 r48 ⟨s1, s2, s3⟩
        show wq (fX3_encrypt_i48 fu (sI key) r r48 (101 + key) (sI (j + 1)) (sI 16) a2 L) _
        unfold fX3_encrypt_i48
        rw [if_pos (by decide)]
        -- mixed
        refine wq_for (body := fun r93 s => fX3_encrypt_i93 fu (sI key) r r93 s.1 s.2.1 s.2.2.1 s.2.2.2.1 s.2.2.2.2) (fun i (a3 : mwM) => (101 + key, sI (j + 1), sI i, a3, L)) (fun i a3 => (∀ y, y < 16 → a3 137 y = sI (S (encN S D rk x j (sft y)))) ∧ (∀ y, y < i → a3 138 y = sI (encN S D rk x (j + 1) y)) ∧ ∀ b y, b ≠ 137 → b ≠ 138 → a3 b y = A b y) 16 ?_ ?_ 16 0 a2 fu (by omega) (by omega) ⟨s1, fun y hy => by omega, s3⟩
        · intro i a3 r93 hi ⟨t1, t2, t3⟩ ih3
          show wq (fX3_encrypt_i93 fu (sI key) r r93 (101 + key) (sI (j + 1)) (sI i) a3 L) _
          unfold fX3_encrypt_i93 fX3_encrypt_b200
          obtain ⟨e1, e2, e3⟩ := ix_col i hi
          have c1 := col_lt i hi 1 (by omega)
          have c2 := col_lt i hi 2 (by omega)
          have c3 := col_lt i hi 3 (by omega)
          have hs : ∀ y, S (encN S D rk x j (sft y)) < 256 := fun y => hS' _ (he j (by omega) _ (sft_lt y))
          have hs0 := hs i
          have hs1 := hs (col i 1)
          rw [if_neg (by rw [sI_lle (by omega) (by omega)]; omega)]
          simp only [mlet]
          rw [e1, e2, e3, mck_s hi (by omega), mck_s c1 (by omega), mck_s c2 (by omega), mck_s c3 (by omega), sI_nn (by omega), sI_nn (by omega), sI_nn (by omega), sI_nn (by omega), t1 i hi, t1 _ c1, t1 _ c2, t1 _ c3]
          have hrow : (16 : Int32) * sI (j + 1) + sI i = sI (16 * (j + 1) + i) := by rw [sI_lml, sI_add]
          have fin : ∀ (z : Nat), z ^^^ rk (16 * (j + 1) + i) = encN S D rk x (j + 1) i → wq (mck ((16 * sI (j + 1)) + sI i) 176 (mck (sI i) 16 (r93 (101 + key, sI (j + 1), sI i + 1, mset a3 138 i (sI z ^^^ (a3 (101 + key) ((16 * sI (j + 1)) + sI i).toNatClampNeg)), L)))) (fun q => q.2 = L ∧ bytes q.1 138 16 (encN S D rk x 10) ∧ ∀ b y, b ≠ 137 → b ≠ 138 → q.1 b y = A b y) := by
            intro z hz
            rw [hrow, mck_s (by omega) (by omega), mck_s hi (by omega), sI_nn (by omega), t3 _ _ (by omega) (by omega), (hk _ (by omega)).1, sI_xor, hz, sI_1]
            refine ih3 (mset a3 138 i (sI (encN S D rk x (j + 1) i))) ⟨?_, ?_, ?_⟩
            · intro y hy
              rw [mset_k (by decide)]; exact t1 y hy
            · intro y hy
              by_cases hyi : y = i
              · rw [hyi, mset_s]
              · rw [mset_j hyi]; exact t2 y (by omega)
            · intro b y q1 q2
              rw [mset_k q2]; exact t3 b y q1 q2
          by_cases hj9 : j + 1 = 10
          · rw [if_pos (by rw [sI_lle (by omega) (by omega)]; omega)]
            refine fin _ ?_
            show _ = rnd S D (decide (j + 1 = 10)) _ _ i
            unfold rnd
            rw [if_pos (by simp [hj9])]
          · rw [if_neg (by rw [sI_lle (by omega) (by omega)]; omega), mck_s hs0 (by omega), mck_s hs1 (by omega), sI_nn (by omega), sI_nn (by omega), t3 99 _ (by omega) (by omega), t3 99 _ (by omega) (by omega), (hD _ hs0).1, (hD _ hs1).1, sI_xor, sI_xor, sI_xor, sI_xor]
            refine fin _ ?_
            show _ = rnd S D (decide (j + 1 = 10)) _ _ i
            unfold rnd
            rw [if_neg (by simp [hj9]), col_0 i hi]
        · intro a3 r93 ⟨t1, t2, t3⟩
          show wq (fX3_encrypt_i93 fu (sI key) r r93 (101 + key) (sI (j + 1)) (sI 16) a3 L) _
          unfold fX3_encrypt_i93
          rw [if_pos (by decide)]
          simp only [mlet]
          rw [sI_1]
          exact ih a3 ⟨fun y hy => ⟨t2 y hy, he (j + 1) (by omega) y hy⟩, t3⟩
    · intro a r ⟨p1, p2⟩
      show wq (fX3_encrypt_i39 fu (sI key) r (101 + key) (sI 11) a L) _
      unfold fX3_encrypt_i39
      rw [if_pos (by decide)]
      exact wq_some ⟨rfl, p1, p2⟩
  unfold DX3_encrypt
  rw [mck_s hkey (by omega), sI_nn (by omega)]
  refine wq_for (body := fun r s => fX3_encrypt_i9 fu (sI key) r s.1 s.2.1 s.2.2.1 s.2.2.2) (fun i (a : mwM) => (101 + key, sI i, a, L)) (fun i a => (∀ y, y < i → a 138 y = sI (encN S D rk x 0 y)) ∧ ∀ b y, b ≠ 138 → a b y = A b y) 16 ?_ ?_ 16 0 A fu (by omega) (by omega) ⟨fun y hy => by omega, fun _ _ _ => rfl⟩
  · intro i a r hi ⟨s1, s2⟩ ih
    show wq (fX3_encrypt_i9 fu (sI key) r (101 + key) (sI i) a L) _
    unfold fX3_encrypt_i9
    rw [if_neg (by rw [sI_lle (by omega) (by omega)]; omega), mck_s hi (by omega), mck_s (by omega) (by omega), mck_s hi (by omega), sI_nn (by omega), s2 137 _ (by omega), s2 (101 + key) _ (by omega), (hx i hi).1, (hk i (by omega)).1, sI_xor]
    simp only [mlet]
    rw [sI_1]
    refine ih (mset a 138 i (sI (x i ^^^ rk i))) ⟨?_, ?_⟩
    · intro y hy
      by_cases hyi : y = i
      · rw [hyi, mset_s]; rfl
      · rw [mset_j hyi]; exact s1 y (by omega)
    · intro b y q
      rw [mset_k q]; exact s2 b y q
  · intro a r ⟨s1, s2⟩
    show wq (fX3_encrypt_i9 fu (sI key) r (101 + key) (sI 16) a L) _
    unfold fX3_encrypt_i9
    rw [if_pos (by decide)]
    exact rounds a (fun y hy => ⟨s1 y hy, he 0 (by omega) y hy⟩) (fun b y _ q => s2 b y q)
