/-! the reference: one block, the round keys being made -/
theorem ix_m1 : ∀ c, c < 4 → ∀ r, r < 4 → (4 : Int32) * ((sI c + sI r) - (sI c + sI r) / 4 * 4) + sI r = sI (sft (4 * c + r)) ∧ (4 : Int32) * sI c + sI r = sI (4 * c + r) := by decide +kernel
theorem ix_m2 : ∀ c, c < 4 → ∀ r, r < 4 → (4 : Int32) * sI c + ((sI r + 1) - (sI r + 1) / 4 * 4) = sI (col (4 * c + r) 1) ∧ (4 : Int32) * sI c + ((sI r + 2) - (sI r + 2) / 4 * 4) = sI (col (4 * c + r) 2) ∧ (4 : Int32) * sI c + ((sI r + 3) - (sI r + 3) / 4 * 4) = sI (col (4 * c + r) 3) := by decide +kernel
/-- products by 2 and by 3 -/
def pr8 (y : Nat) : Int32 → Int32 × Int32 → Nat → Int32 × Int32
  | _, s, 0 => s
  | b, s, n + 1 => pr8 y b (if (((sI y) >>> (sI (7 - n) &&& 31)) &&& 1) = 1 then s.1 ^^^ s.2 else s.1, if s.2 ≤ 127 then 2 * s.2 else ((2 * s.2) - 256) ^^^ 27) n
theorem m_product {fu : Nat} {M : mwM} {L : mwL} {x : Int32} {y : Nat} (hf : 9 ≤ fu) : ∃ z, DX14_product fu x (sI y) M L = some (z, M, L) ∧ z = (pr8 y 0 (0, x) 8).1 := by
  have h := wq_for (body := fun r s => fX14_product_i7 fu x (sI y) r s.1 s.2.1 s.2.2.1 s.2.2.2.1 s.2.2.2.2) (Q := fun q => q = ((pr8 y 0 (0, x) 8).1, M, L)) (fun j (s : Int32 × Int32) => (s.1, s.2, sI j, M, L)) (fun j s => pr8 y 0 s (8 - j) = pr8 y 0 (0, x) 8) 8 ?_ ?_ 8 0 (0, x) fu (by omega) (by omega) rfl
  · obtain ⟨q, e, rfl⟩ := h
    exact ⟨_, e, rfl⟩
  · rintro j ⟨s1, s2⟩ r hj hP ih
    show wq (fX14_product_i7 fu x (sI y) r s1 s2 (sI j) M L) _
    unfold fX14_product_i7 fX14_product_b31 fX14_product_b54
    rw [if_neg (by rw [sI_lle (by omega) (by omega)]; omega)]
    simp only [mlet]
    rw [sI_1]
    have e8 : 8 - j = (8 - (j + 1)) + 1 := by omega
    have e7 : 7 - (8 - (j + 1)) = j := by omega
    rw [e8] at hP
    change pr8 y 0 (if (((sI y) >>> (sI (7 - (8 - (j + 1))) &&& 31)) &&& 1) = 1 then s1 ^^^ s2 else s1, if s2 ≤ 127 then 2 * s2 else ((2 * s2) - 256) ^^^ 27) (8 - (j + 1)) = _ at hP
    rw [e7] at hP
    by_cases hb : ((sI y >>> (sI j &&& 31)) &&& 1) = 1
    · rw [if_pos hb] at hP ⊢
      by_cases h127 : s2 ≤ 127
      · rw [if_pos h127] at hP ⊢
        exact ih (s1 ^^^ s2, 2 * s2) hP
      · rw [if_neg h127] at hP ⊢
        exact ih (s1 ^^^ s2, ((2 * s2) - 256) ^^^ 27) hP
    · rw [if_neg hb] at hP ⊢
      by_cases h127 : s2 ≤ 127
      · rw [if_pos h127] at hP ⊢
        exact ih (s1, 2 * s2) hP
      · rw [if_neg h127] at hP ⊢
        exact ih (s1, ((2 * s2) - 256) ^^^ 27) hP
  · rintro ⟨s1, s2⟩ r hP
    show wq (fX14_product_i7 fu x (sI y) r s1 s2 (sI 8) M L) _
    unfold fX14_product_i7
    rw [if_pos (by decide)]
    change pr8 y 0 (s1, s2) 0 = _ at hP
    have e1 : s1 = (pr8 y 0 (0, x) 8).1 := by rw [← hP]; rfl
    exact wq_some (by rw [e1])
/-- the doubling of octets -/
def dblN (y : Nat) : Nat := if y < 128 then 2 * y else (2 * y - 256) ^^^ 27
theorem dblN_lt : ∀ y, y < 256 → dblN y < 256 := by decide +kernel
theorem pr_2 : ∀ y, y < 256 → (pr8 2 0 (0, sI y) 8).1 = sI (dblN y) := by decide +kernel
theorem pr_3 : ∀ y, y < 256 → (pr8 3 0 (0, sI y) 8).1 = sI (dblN y ^^^ y) := by decide +kernel
theorem m_prod2 {fu : Nat} {M : mwM} {L : mwL} {y : Nat} (hf : 9 ≤ fu) (hy : y < 256) : DX14_product fu (sI y) 2 M L = some (sI (dblN y), M, L) := by
  obtain ⟨z, h1, h2⟩ := m_product (fu := fu) (M := M) (L := L) (x := sI y) (y := 2) hf
  rw [pr_2 y hy] at h2
  rw [← h2]
  exact h1
theorem m_prod3 {fu : Nat} {M : mwM} {L : mwL} {y : Nat} (hf : 9 ≤ fu) (hy : y < 256) : DX14_product fu (sI y) 3 M L = some (sI (dblN y ^^^ y), M, L) := by
  obtain ⟨z, h1, h2⟩ := m_product (fu := fu) (M := M) (L := L) (x := sI y) (y := 3) hf
  rw [pr_3 y hy] at h2
  rw [← h2]
  exact h1
theorem m_rounds {fu : Nat} {M : mwM} {L : mwL} {base : Int32} {S rk x : Nat → Nat} (hf : 17 ≤ fu) (hS : bytes M 868 256 S) (hk : bytes M 865 176 rk) (hx : bytes M 863 16 (encN S dblN rk x 0)) (hx' : ∀ i, i < 16 → x i < 256) : wq (fX14_cipher_h40 fu base fu (1, M, L)) (fun q => q.2 = L ∧ bytes q.1 863 16 (encN S dblN rk x 10) ∧ ∀ b y, b ≠ 863 → b ≠ 864 → q.1 b y = M b y) := by
  have hS' : ∀ y, y < 256 → S y < 256 := fun y hy => (hS y hy).2
  have hk' : ∀ i, i < 176 → rk i < 256 := fun i hi => (hk i hi).2
  have he := encN_lt hS' dblN_lt hk' hx'
  refine wq_for (body := fun r s => fX14_cipher_i40 fu base r s.1 s.2.1 s.2.2) (fun j (a : mwM) => (sI (j + 1), a, L)) (fun j a => bytes a 863 16 (encN S dblN rk x j) ∧ ∀ b y, b ≠ 863 → b ≠ 864 → a b y = M b y) 10 ?_ ?_ 10 0 M fu (by omega) (by omega) ⟨hx, fun _ _ _ _ => rfl⟩
  · intro j a r hj ⟨p1, p2⟩ ih
    show wq (fX14_cipher_i40 fu base r (sI (j + 1)) a L) _
    unfold fX14_cipher_i40
    rw [if_neg (by rw [sI_lle (by omega) (by omega)]; omega)]
    -- octets replaced and moved
    refine wq_for (body := fun r48 s => fX14_cipher_i48 fu base r r48 s.1 s.2.1 s.2.2.1 s.2.2.2) (fun c (a2 : mwM) => (sI (j + 1), sI c, a2, L)) (fun c a2 => (∀ y, y < 4 * c → a2 864 y = sI (S (encN S dblN rk x j (sft y)))) ∧ bytes a2 863 16 (encN S dblN rk x j) ∧ ∀ b y, b ≠ 863 → b ≠ 864 → a2 b y = M b y) 4 ?_ ?_ 4 0 a fu (by omega) (by omega) ⟨fun y hy => by omega, p1, p2⟩
    · intro c a2 r48 hc ⟨s1, s2, s3⟩ ih2
      show wq (fX14_cipher_i48 fu base r r48 (sI (j + 1)) (sI c) a2 L) _
      unfold fX14_cipher_i48
      rw [if_neg (by rw [sI_lle (by omega) (by omega)]; omega)]
      refine wq_for (body := fun r56 s => fX14_cipher_i56 fu base r r48 r56 s.1 s.2.1 s.2.2.1 s.2.2.2.1 s.2.2.2.2) (fun q (a3 : mwM) => (sI (j + 1), sI c, sI q, a3, L)) (fun q a3 => (∀ y, y < 4 * c + q → a3 864 y = sI (S (encN S dblN rk x j (sft y)))) ∧ bytes a3 863 16 (encN S dblN rk x j) ∧ ∀ b y, b ≠ 863 → b ≠ 864 → a3 b y = M b y) 4 ?_ ?_ 4 0 a2 fu (by omega) (by omega) ⟨s1, s2, s3⟩
      · intro q a3 r56 hq ⟨t1, t2, t3⟩ ih3
        show wq (fX14_cipher_i56 fu base r r48 r56 (sI (j + 1)) (sI c) (sI q) a3 L) _
        unfold fX14_cipher_i56 DX14_substitute
        obtain ⟨e1, e2⟩ := ix_m1 c hc q hq
        have hsl := sft_lt (4 * c + q)
        have hel := he j (by omega) _ hsl
        rw [if_neg (by rw [sI_lle (by omega) (by omega)]; omega), e1, e2, mck_s hsl (by omega), sI_nn (by omega), (t2 _ hsl).1, mck_s hel (by omega), mb3_s, mck_s (by omega) (by omega), sI_nn (by omega), sI_nn (by omega), t3 868 _ (by omega) (by omega), (hS _ hel).1]
        simp only [mlet]
        rw [sI_1]
        refine ih3 (mset a3 864 (4 * c + q) (sI (S (encN S dblN rk x j (sft (4 * c + q)))))) ⟨?_, ?_, ?_⟩
        · intro y hy
          by_cases hyi : y = 4 * c + q
          · rw [hyi, mset_s]
          · rw [mset_j hyi]; exact t1 y (by omega)
        · intro y hy
          rw [mset_k (by decide)]; exact t2 y hy
        · intro b y q1 q2
          rw [mset_k q2]; exact t3 b y q1 q2
      · intro a3 r56 ⟨t1, t2, t3⟩
        show wq (fX14_cipher_i56 fu base r r48 r56 (sI (j + 1)) (sI c) (sI 4) a3 L) _
        unfold fX14_cipher_i56
        rw [if_pos (by decide)]
        simp only [mlet]
        rw [sI_1]
        exact ih2 a3 ⟨fun y hy => t1 y (by omega), t2, t3⟩
    · intro a2 r48 ⟨s1, s2, s3⟩
      show wq (fX14_cipher_i48 fu base r r48 (sI (j + 1)) (sI 4) a2 L) _
      unfold fX14_cipher_i48
      rw [if_pos (by decide)]
      -- mixed
      refine wq_for (body := fun r107 s => fX14_cipher_i107 fu base r r107 s.1 s.2.1 s.2.2.1 s.2.2.2) (fun c (a3 : mwM) => (sI (j + 1), sI c, a3, L)) (fun c a3 => (∀ y, y < 16 → a3 864 y = sI (S (encN S dblN rk x j (sft y)))) ∧ (∀ y, y < 4 * c → a3 863 y = sI (encN S dblN rk x (j + 1) y)) ∧ ∀ b y, b ≠ 863 → b ≠ 864 → a3 b y = M b y) 4 ?_ ?_ 4 0 a2 fu (by omega) (by omega) ⟨fun y hy => s1 y (by omega), fun y hy => by omega, s3⟩
      · intro c a3 r107 hc ⟨t1, t2, t3⟩ ih2
        show wq (fX14_cipher_i107 fu base r r107 (sI (j + 1)) (sI c) a3 L) _
        unfold fX14_cipher_i107
        rw [if_neg (by rw [sI_lle (by omega) (by omega)]; omega)]
        refine wq_for (body := fun r115 s => fX14_cipher_i115 fu base r r107 r115 s.1 s.2.1 s.2.2.1 s.2.2.2.1 s.2.2.2.2) (fun q (a4 : mwM) => (sI (j + 1), sI c, sI q, a4, L)) (fun q a4 => (∀ y, y < 16 → a4 864 y = sI (S (encN S dblN rk x j (sft y)))) ∧ (∀ y, y < 4 * c + q → a4 863 y = sI (encN S dblN rk x (j + 1) y)) ∧ ∀ b y, b ≠ 863 → b ≠ 864 → a4 b y = M b y) 4 ?_ ?_ 4 0 a3 fu (by omega) (by omega) ⟨t1, t2, t3⟩
        · intro q a4 r115 hq ⟨u1, u2, u3⟩ ih3
          show wq (fX14_cipher_i115 fu base r r107 r115 (sI (j + 1)) (sI c) (sI q) a4 L) _
          unfold fX14_cipher_i115 fX14_cipher_b200
          obtain ⟨_, e2⟩ := ix_m1 c hc q hq
          obtain ⟨f1, f2, f3⟩ := ix_m2 c hc q hq
          have hi : 4 * c + q < 16 := by omega
          have c1 := col_lt _ hi 1 (by omega)
          have c2 := col_lt _ hi 2 (by omega)
          have c3 := col_lt _ hi 3 (by omega)
          have hs : ∀ y, S (encN S dblN rk x j (sft y)) < 256 := fun y => hS' _ (he j (by omega) _ (sft_lt y))
          have hrow : (16 : Int32) * sI (j + 1) + 4 * sI c + sI q = sI (16 * (j + 1) + (4 * c + q)) := by
            rw [sI_lml, sI_lml, sI_add, sI_add]
            congr 1
            show 16 * (j + 1) + 4 * c + q = _
            omega
          rw [if_neg (by rw [sI_lle (by omega) (by omega)]; omega), e2, mck_s hi (by omega), sI_nn (by omega), u1 _ hi]
          simp only [mlet]
          have fin : ∀ (z : Nat), z ^^^ rk (16 * (j + 1) + (4 * c + q)) = encN S dblN rk x (j + 1) (4 * c + q) → wq (mck (((16 * sI (j + 1)) + (4 * sI c)) + sI q) 176 (mck (sI (4 * c + q)) 16 (r115 (sI (j + 1), sI c, sI q + 1, mset a4 863 (4 * c + q) (sI z ^^^ (a4 865 (((16 * sI (j + 1)) + (4 * sI c)) + sI q).toNatClampNeg)), L)))) (fun q => q.2 = L ∧ bytes q.1 863 16 (encN S dblN rk x 10) ∧ ∀ b y, b ≠ 863 → b ≠ 864 → q.1 b y = M b y) := by
            intro z hz
            rw [hrow, mck_s (by omega) (by omega), mck_s hi (by omega), sI_nn (by omega), u3 _ _ (by omega) (by omega), (hk _ (by omega)).1, sI_xor, hz, sI_1]
            refine ih3 (mset a4 863 (4 * c + q) (sI (encN S dblN rk x (j + 1) (4 * c + q)))) ⟨?_, ?_, ?_⟩
            · intro y hy
              rw [mset_k (by decide)]; exact u1 y hy
            · intro y hy
              by_cases hyi : y = 4 * c + q
              · rw [hyi, mset_s]
              · rw [mset_j hyi]; exact u2 y (by omega)
            · intro b y q1 q2
              rw [mset_k q1]; exact u3 b y q1 q2
          by_cases hj9 : j + 1 = 10
          · rw [if_pos (by rw [sI_lle (by omega) (by omega)]; omega)]
            refine fin _ ?_
            show _ = rnd S dblN (decide (j + 1 = 10)) _ _ (4 * c + q)
            unfold rnd
            rw [if_pos (by simp [hj9])]
          · rw [if_neg (by rw [sI_lle (by omega) (by omega)]; omega), m_prod2 (by omega) (hs _), mb3_s, f1, f2, f3, mck_s c1 (by omega), sI_nn (by omega), u1 _ c1, m_prod3 (by omega) (hs _), mb3_s, mck_s c2 (by omega), mck_s c3 (by omega), sI_nn (by omega), sI_nn (by omega), u1 _ c2, u1 _ c3, sI_xor, sI_xor, sI_xor]
            refine fin _ ?_
            show _ = rnd S dblN (decide (j + 1 = 10)) _ _ (4 * c + q)
            unfold rnd
            rw [if_neg (by simp [hj9]), col_0 _ hi]
            simp only [Nat.xor_assoc]
        · intro a4 r115 ⟨u1, u2, u3⟩
          show wq (fX14_cipher_i115 fu base r r107 r115 (sI (j + 1)) (sI c) (sI 4) a4 L) _
          unfold fX14_cipher_i115
          rw [if_pos (by decide)]
          simp only [mlet]
          rw [sI_1]
          exact ih2 a4 ⟨u1, fun y hy => u2 y (by omega), u3⟩
      · intro a3 r107 ⟨t1, t2, t3⟩
        show wq (fX14_cipher_i107 fu base r r107 (sI (j + 1)) (sI 4) a3 L) _
        unfold fX14_cipher_i107
        rw [if_pos (by decide)]
        simp only [mlet]
        rw [sI_1]
        exact ih a3 ⟨fun y hy => ⟨t2 y (by omega), he (j + 1) (by omega) y hy⟩, t3⟩
  · intro a r ⟨p1, p2⟩
    show wq (fX14_cipher_i40 fu base r (sI 11) a L) _
    unfold fX14_cipher_i40
    rw [if_pos (by decide)]
    exact wq_some ⟨rfl, p1, p2⟩
/-! the round keys -/
def powN : Nat → Nat
  | 0 => 1
  | n + 1 => dblN (powN n)
theorem powN_lt : ∀ n, powN n < 256 := by
  intro n
  induction n with
  | zero => decide
  | succ n ih => exact dblN_lt _ ih
def frst (k : Nat) : Bool := decide (k % 16 < 4)
def zero16 (k : Nat) : Bool := decide (k % 16 = 0)
def rt4 (k : Nat) : Nat := k - 4 - k % 4 + (k % 4 + 1) % 4
def pwB (k : Nat) : Nat := powN (k / 16 - 1)
/-- the octet k of the round keys, out of those before it -/
def schV (S f : Nat → Nat) (k : Nat) : Nat := f (k - 16) ^^^ (if frst k = true then (if zero16 k = true then S (f (rt4 k)) ^^^ pwB k else S (f (rt4 k))) else f (k - 4))
def schL (S k0 : Nat → Nat) : Nat → Nat → Nat
  | 0 => k0
  | n + 1 => fun i => if i = 16 + n then schV S (schL S k0 n) (16 + n) else schL S k0 n i
theorem rt4_lt : ∀ k, k < 176 → 16 ≤ k → rt4 k < k := by decide +kernel
theorem schL_lt {S k0 : Nat → Nat} (hS : ∀ y, y < 256 → S y < 256) (hk : ∀ i, i < 16 → k0 i < 256) : ∀ n, n ≤ 160 → ∀ i, i < 16 + n → schL S k0 n i < 256 := by
  intro n
  induction n with
  | zero => intro _ i hi; exact hk i (by omega)
  | succ n ih =>
    intro hn i hi
    have ihn := ih (by omega)
    show (if i = 16 + n then schV S (schL S k0 n) (16 + n) else schL S k0 n i) < 256
    split
    · unfold schV
      have hr := rt4_lt (16 + n) (by omega) (by omega)
      have hs := hS _ (ihn _ hr)
      refine xor_8 (ihn _ (by omega)) ?_
      split
      · split
        · exact xor_8 hs (powN_lt _)
        · exact hs
      · exact ihn _ (by omega)
    · exact ihn i (by omega)
/-- powers, as the reference keeps them before octet k -/
def pwA (k : Nat) : Nat := if zero16 k = true then powN (k / 16 - 1) else powN (k / 16)
theorem pwA_1 : ∀ k, k < 176 → 16 ≤ k → (zero16 k = true → pwA k = pwB k ∧ dblN (pwA k) = pwA (k + 1)) ∧ (zero16 k = false → pwA (k + 1) = pwA k) := by decide +kernel
theorem pwA_lt (k : Nat) : pwA k < 256 := by
  unfold pwA
  split <;> exact powN_lt _
theorem ix_k : ∀ k, k < 176 → 16 ≤ k → (sI k - sI k / 4 * 4 = sI (k % 4)) ∧ ((4 ≤ sI k - sI k / 16 * 16) ↔ frst k = false) ∧ (((sI k - 4) - sI (k % 4)) + ((sI (k % 4) + 1) - (sI (k % 4) + 1) / 4 * 4) = sI (rt4 k)) ∧ (sI k - 4 = sI (k - 4)) ∧ (sI k - 16 = sI (k - 16)) ∧ (frst k = true → ((sI (k % 4) = 0) ↔ zero16 k = true)) ∧ (frst k = false → zero16 k = false) := by decide +kernel
theorem m_makeRound {fu : Nat} {M : mwM} {L : mwL} {base : Nat} {S k0 : Nat → Nat} (hf : 161 ≤ fu) (hb : base ≤ 256) (hS : bytes M 868 256 S) (hk : ∀ i, i < 16 → M 855 (base + i) = sI (k0 i) ∧ k0 i < 256) : wq (DX14_makeRound fu (sI base) M L) (fun q => q.2 = L ∧ bytes q.1 865 176 (schL S k0 160) ∧ ∀ b y, b ≠ 865 → q.1 b y = M b y) := by
  have hS' : ∀ y, y < 256 → S y < 256 := fun y hy => (hS y hy).2
  have hlt := schL_lt (k0 := k0) hS' (fun i hi => (hk i hi).2)
  have sched : ∀ (M1 : mwM), (∀ i, i < 16 → M1 865 i = sI (k0 i)) → (∀ b y, b ≠ 865 → M1 b y = M b y) → wq (fX14_makeRound_h33 fu (sI base) fu (1, 16, M1, L)) (fun q => q.2 = L ∧ bytes q.1 865 176 (schL S k0 160) ∧ ∀ b y, b ≠ 865 → q.1 b y = M b y) := by
    intro M1 h1 h2
    refine wq_for (body := fun r s => fX14_makeRound_i33 fu (sI base) r s.1 s.2.1 s.2.2.1 s.2.2.2) (fun n (a : mwM) => (sI (pwA (16 + n)), sI (16 + n), a, L)) (fun n a => (∀ i, i < 16 + n → a 865 i = sI (schL S k0 n i)) ∧ ∀ b y, b ≠ 865 → a b y = M b y) 160 ?_ ?_ 160 0 M1 fu (by omega) (by omega) ⟨h1, h2⟩
    · intro n a r hn ⟨p1, p2⟩ ih
      show wq (fX14_makeRound_i33 fu (sI base) r (sI (pwA (16 + n))) (sI (16 + n)) a L) _
      have hR := rt4_lt (16 + n) (by omega) (by omega)
      obtain ⟨x1, x2, x3, x4, x5, x6, x7⟩ := ix_k (16 + n) (by omega) (by omega)
      obtain ⟨z1, z2⟩ := pwA_1 (16 + n) (by omega) (by omega)
      have hpl := pwA_lt (16 + n)
      have hl := hlt n (by omega)
      have hrl := hl _ hR
      clear hlt
      generalize hk4 : (16 + n) % 4 = k4 at x1 x3 x6
      -- the end of a step
      have fin : ∀ (v p : Nat), p < 256 → p = pwA (16 + n + 1) → schL S k0 n (16 + n - 16) ^^^ v = schL S k0 (n + 1) (16 + n) → wq (fX14_makeRound_b140 fu (sI base) r (sI (16 + n)) (sI v) (sI p) a L) (fun q => q.2 = L ∧ bytes q.1 865 176 (schL S k0 160) ∧ ∀ b y, b ≠ 865 → q.1 b y = M b y) := by
        intro v p hp hpe hv
        unfold fX14_makeRound_b140
        rw [x5, mck_s (by omega) (by omega), mck_s (by omega) (by omega), sI_nn (by omega), sI_nn (by omega), p1 _ (by omega), sI_xor, hv]
        simp only [mlet]
        rw [sI_1, hpe]
        refine ih (mset a 865 (16 + n) (sI (schL S k0 (n + 1) (16 + n)))) ⟨?_, ?_⟩
        · intro i hi
          by_cases hin : i = 16 + n
          · rw [hin, mset_s]
          · rw [mset_j hin, p1 i (by omega)]
            show _ = sI (if i = 16 + n then _ else schL S k0 n i)
            rw [if_neg hin]
        · intro b y q
          rw [mset_k q]; exact p2 b y q
      have hval : schL S k0 (n + 1) (16 + n) = schV S (schL S k0 n) (16 + n) := by
        show (if 16 + n = 16 + n then _ else _) = _
        rw [if_pos rfl]
      unfold fX14_makeRound_i33
      rw [if_neg (by rw [sI_lle (by omega) (by omega)]; omega)]
      simp only [mlet]
      rw [x1]
      unfold fX14_makeRound_b58 fX14_makeRound_b98 fX14_makeRound_b117 fX14_makeRound_b119 fX14_makeRound_b139 DX14_substitute
      by_cases hF : frst (16 + n) = true
      · rw [if_neg (fun q => by have := x2.mp q; rw [hF] at this; cases this), if_neg (by decide), x3, mck_s (by omega) (by omega), sI_nn (by omega), p1 _ hR, mck_s hrl (by omega), mb3_s, sI_nn (by omega), p2 868 _ (by omega), (hS _ hrl).1]
        rw [if_neg (by decide)]
        have hsl := hS' _ hrl
        by_cases hZ : zero16 (16 + n) = true
        · obtain ⟨z3, z4⟩ := z1 hZ
          rw [if_pos ((x6 hF).mpr hZ), if_neg (by decide), if_pos ((x6 hF).mpr hZ), sI_xor, m_prod2 (by omega) hpl, mb3_s]
          refine fin _ _ (dblN_lt _ hpl) z4 ?_
          rw [hval]
          unfold schV
          rw [if_pos hF, if_pos hZ, z3]
        · have hZ' : zero16 (16 + n) = false := by simpa using hZ
          rw [if_neg (fun q => hZ ((x6 hF).mp q)), if_neg (by decide), if_neg (fun q => hZ ((x6 hF).mp q))]
          refine fin _ _ hpl (z2 hZ').symm ?_
          rw [hval]
          unfold schV
          rw [if_pos hF, if_neg hZ]
      · have hF' : frst (16 + n) = false := by simpa using hF
        rw [if_pos (x2.mpr hF'), if_pos rfl, x4, mck_s (by omega) (by omega), sI_nn (by omega), p1 _ (by omega), if_pos rfl, if_pos rfl]
        refine fin _ _ hpl (z2 (x7 hF')).symm ?_
        rw [hval]
        unfold schV
        rw [if_neg hF]
    · intro a r ⟨p1, p2⟩
      show wq (fX14_makeRound_i33 fu (sI base) r (sI (pwA (16 + 160))) (sI (16 + 160)) a L) _
      unfold fX14_makeRound_i33
      rw [if_pos (by decide)]
      exact wq_some ⟨rfl, fun i hi => ⟨p1 i (by omega), hlt 160 (Nat.le_refl _) i (by omega)⟩, p2⟩
  unfold DX14_makeRound
  refine wq_for (body := fun r s => fX14_makeRound_i2 fu (sI base) r s.1 s.2.1 s.2.2) (fun i (a : mwM) => (sI i, a, L)) (fun i a => (∀ y, y < i → a 865 y = sI (k0 y)) ∧ ∀ b y, b ≠ 865 → a b y = M b y) 16 ?_ ?_ 16 0 M fu (by omega) (by omega) ⟨fun y hy => by omega, fun _ _ _ => rfl⟩
  · intro i a r hi ⟨s1, s2⟩ ih
    show wq (fX14_makeRound_i2 fu (sI base) r (sI i) a L) _
    unfold fX14_makeRound_i2
    rw [if_neg (by rw [sI_lle (by omega) (by omega)]; omega), sI_add, mck_s (by omega) (by omega), mck_s (by omega) (by omega), sI_nn (by omega), sI_nn (by omega), s2 855 _ (by omega), (hk i hi).1]
    simp only [mlet]
    rw [sI_1]
    refine ih (mset a 865 i (sI (k0 i))) ⟨?_, ?_⟩
    · intro y hy
      by_cases hyi : y = i
      · rw [hyi, mset_s]
      · rw [mset_j hyi]; exact s1 y (by omega)
    · intro b y q
      rw [mset_k q]; exact s2 b y q
  · intro a r ⟨s1, s2⟩
    show wq (fX14_makeRound_i2 fu (sI base) r (sI 16) a L) _
    unfold fX14_makeRound_i2
    rw [if_pos (by decide)]
    exact sched a s1 s2
theorem schL_st {S k0 : Nat → Nat} {n y : Nat} (hy : y < 16 + n) : ∀ m, schL S k0 (n + m) y = schL S k0 n y := by
  intro m
  induction m with
  | zero => rfl
  | succ m ih =>
    show (if y = 16 + (n + m) then _ else schL S k0 (n + m) y) = _
    rw [if_neg (by omega), ih]
theorem schL_v {S k0 : Nat → Nat} (n : Nat) : schL S k0 (n + 1) (16 + n) = schV S (schL S k0 n) (16 + n) := by
  show (if 16 + n = 16 + n then _ else _) = _
  rw [if_pos rfl]
def frst4 (n : Nat) : Bool := zero16 (16 + 4 * n)
theorem ix_c : ∀ n, n < 40 → (sI (16 + 4 * n) - sI (16 + 4 * n) / 16 * 16 = 0 ↔ frst4 n = true) := by decide +kernel
theorem ix_c2 : ∀ n, n < 40 → ∀ r, r < 4 → frst (16 + (4 * n + r)) = frst4 n ∧ (zero16 (16 + (4 * n + r)) = true ↔ (frst4 n = true ∧ r = 0)) ∧ rt4 (16 + (4 * n + r)) < 16 + 4 * n ∧ (sI (16 + 4 * n) - 4) + ((sI r + 1) - (sI r + 1) / 4 * 4) = sI (rt4 (16 + (4 * n + r))) ∧ (sI (16 + 4 * n) - 4) + sI r = sI (16 + (4 * n + r) - 4) ∧ (sI (16 + 4 * n) + sI r) - 16 = sI (16 + (4 * n + r) - 16) := by decide +kernel
theorem pwA_4 : ∀ n, n < 40 → (frst4 n = true → pwA (16 + 4 * n) = pwB (16 + 4 * n) ∧ dblN (pwA (16 + 4 * n)) = pwA (16 + 4 * (n + 1))) ∧ (frst4 n = false → pwA (16 + 4 * n) = pwA (16 + 4 * (n + 1))) := by decide +kernel
/-- the class: the round keys of a key -/
theorem c_spread {fu : Nat} {A : mwM} {L : mwL} {key : Nat} {S : Nat → Nat} (hf : 41 ≤ fu) (hkey : key < 17) (hS : bytes A 98 256 S) (hD : bytes A 99 256 dblN) : wq (DX3_spreadKey fu (sI key) A L) (fun q => q.2 = L ∧ bytes q.1 (101 + key) 176 (schL S (fun i => key + i) 160) ∧ ∀ b y, b ≠ 101 + key → q.1 b y = A b y) := by
  have hS' : ∀ y, y < 256 → S y < 256 := fun y hy => (hS y hy).2
  have hlt := schL_lt (S := S) (k0 := fun i => key + i) hS' (fun i hi => by show key + i < 256; omega)
  have sched : ∀ (A1 : mwM), (∀ i, i < 16 → A1 (101 + key) i = sI (key + i)) → (∀ b y, b ≠ 101 + key → A1 b y = A b y) → wq (fX3_spreadKey_h37 fu (sI key) fu (101 + key, 1, 16, A1, L)) (fun q => q.2 = L ∧ bytes q.1 (101 + key) 176 (schL S (fun i => key + i) 160) ∧ ∀ b y, b ≠ 101 + key → q.1 b y = A b y) := by
    intro A1 h1 h2
    refine wq_for (body := fun r s => fX3_spreadKey_i37 fu (sI key) r s.1 s.2.1 s.2.2.1 s.2.2.2.1 s.2.2.2.2) (fun n (a : mwM) => (101 + key, sI (pwA (16 + 4 * n)), sI (16 + 4 * n), a, L)) (fun n a => (∀ i, i < 16 + 4 * n → a (101 + key) i = sI (schL S (fun i => key + i) (4 * n) i)) ∧ ∀ b y, b ≠ 101 + key → a b y = A b y) 40 ?_ ?_ 40 0 A1 fu (by omega) (by omega) ⟨h1, h2⟩
    · intro n a r hn ⟨p1, p2⟩ ih
      show wq (fX3_spreadKey_i37 fu (sI key) r (101 + key) (sI (pwA (16 + 4 * n))) (sI (16 + 4 * n)) a L) _
      have x1 := ix_c n hn
      have x2 := ix_c2 n hn
      obtain ⟨z1, z2⟩ := pwA_4 n hn
      have hpl := pwA_lt (16 + 4 * n)
      have hl := hlt (4 * n) (by omega)
      -- four octets; of the first only the power is wanting
      have four : ∀ (s0 : Int32), (s0 = if frst4 n = true then 1 else 0) → wq (fX3_spreadKey_h63 fu (sI key) r fu (101 + key, sI (pwA (16 + 4 * n)), sI (16 + 4 * n), s0, 0, a, L)) (fun q => q.2 = L ∧ bytes q.1 (101 + key) 176 (schL S (fun i => key + i) 160) ∧ ∀ b y, b ≠ 101 + key → q.1 b y = A b y) := by
        intro s0 hs0
        refine wq_for (body := fun r63 s => fX3_spreadKey_i63 fu (sI key) r r63 s.1 s.2.1 s.2.2.1 s.2.2.2.1 s.2.2.2.2.1 s.2.2.2.2.2.1 s.2.2.2.2.2.2) (fun q (a2 : mwM) => (101 + key, sI (pwA (16 + 4 * n)), sI (16 + 4 * n), s0, sI q, a2, L)) (fun q a2 => (∀ i, i < 16 + 4 * n → a2 (101 + key) i = sI (schL S (fun i => key + i) (4 * n) i)) ∧ (∀ t, t < q → a2 (101 + key) (16 + (4 * n + t)) = sI (if frst4 n = true ∧ t = 0 then schL S (fun i => key + i) (4 * n) (16 + (4 * n) - 16) ^^^ S (schL S (fun i => key + i) (4 * n) (rt4 (16 + (4 * n + 0)))) else schL S (fun i => key + i) (4 * n + t + 1) (16 + (4 * n + t)))) ∧ ∀ b y, b ≠ 101 + key → a2 b y = A b y) 4 ?_ ?_ 4 0 a fu (by omega) (by omega) ⟨p1, fun t ht => by omega, p2⟩
        · intro q a2 r63 hq ⟨s1, s2, s3⟩ ih2
          show wq (fX3_spreadKey_i63 fu (sI key) r r63 (101 + key) (sI (pwA (16 + 4 * n))) (sI (16 + 4 * n)) s0 (sI q) a2 L) _
          obtain ⟨y1, y2, y3, y4, y5, y6⟩ := x2 q hq
          have hrl := hl _ y3
          have hsl := hS' _ hrl
          have hv : schL S (fun i => key + i) (4 * n + q + 1) (16 + (4 * n + q)) = schL S (fun i => key + i) (4 * n) (16 + (4 * n + q) - 16) ^^^ (if frst4 n = true then (if zero16 (16 + (4 * n + q)) = true then S (schL S (fun i => key + i) (4 * n) (rt4 (16 + (4 * n + q)))) ^^^ pwB (16 + (4 * n + q)) else S (schL S (fun i => key + i) (4 * n) (rt4 (16 + (4 * n + q))))) else schL S (fun i => key + i) (4 * n) (16 + (4 * n + q) - 4)) := by
            rw [schL_v]
            unfold schV
            rw [y1, schL_st (n := 4 * n) (by omega) q, schL_st (n := 4 * n) y3 q, schL_st (n := 4 * n) (y := 16 + (4 * n + q) - 4) (by omega) q]
          -- the octet is put
          have put : ∀ (v : Nat), schL S (fun i => key + i) (4 * n) (16 + (4 * n + q) - 16) ^^^ v = (if frst4 n = true ∧ q = 0 then schL S (fun i => key + i) (4 * n) (16 + (4 * n) - 16) ^^^ S (schL S (fun i => key + i) (4 * n) (rt4 (16 + (4 * n + 0)))) else schL S (fun i => key + i) (4 * n + q + 1) (16 + (4 * n + q))) → wq (fX3_spreadKey_b120 fu (sI key) r r63 (101 + key) (sI (pwA (16 + 4 * n))) (sI (16 + 4 * n)) s0 (sI q) (101 + key) (sI (16 + 4 * n) + sI q) (sI (schL S (fun i => key + i) (4 * n) (16 + (4 * n + q) - 16))) (sI v) a2 L) (fun q => q.2 = L ∧ bytes q.1 (101 + key) 176 (schL S (fun i => key + i) 160) ∧ ∀ b y, b ≠ 101 + key → q.1 b y = A b y) := by
            intro v hvv
            unfold fX3_spreadKey_b120
            rw [sI_add, mck_s (by omega) (by omega), sI_nn (by omega), sI_xor, hvv]
            simp only [mlet]
            rw [sI_1]
            refine ih2 (mset a2 (101 + key) (16 + 4 * n + q) (sI (if frst4 n = true ∧ q = 0 then schL S (fun i => key + i) (4 * n) (16 + (4 * n) - 16) ^^^ S (schL S (fun i => key + i) (4 * n) (rt4 (16 + (4 * n + 0)))) else schL S (fun i => key + i) (4 * n + q + 1) (16 + (4 * n + q))))) ⟨?_, ?_, ?_⟩
            · intro i hi
              rw [mset_j (by omega)]; exact s1 i hi
            · intro t ht
              by_cases htq : t = q
              · subst htq
                rw [show 16 + (4 * n + t) = 16 + 4 * n + t by omega, mset_s]
              · rw [mset_j (by omega)]; exact s2 t (by omega)
            · intro b y qq
              rw [mset_k qq]; exact s3 b y qq
          unfold fX3_spreadKey_i63
          rw [if_neg (by rw [sI_lle (by omega) (by omega)]; omega), y6, mck_s (by omega) (by omega), sI_nn (by omega), s1 _ (by omega)]
          by_cases hF : frst4 n = true
          · rw [if_neg (by rw [hs0, if_pos hF]; decide), y4, mck_s (by omega) (by omega), sI_nn (by omega), s1 _ y3, mck_s hrl (by omega), sI_nn (by omega), s3 98 _ (by omega), (hS _ hrl).1]
            refine put _ ?_
            by_cases hq0 : q = 0
            · subst hq0
              rw [if_pos ⟨hF, rfl⟩]
              rfl
            · rw [if_neg (fun qq => hq0 qq.2), hv, if_pos hF, if_neg (fun qq => hq0 (y2.mp qq).2)]
          · rw [if_pos (by rw [hs0, if_neg hF]), y5, mck_s (by omega) (by omega), sI_nn (by omega), s1 _ (by omega)]
            refine put _ ?_
            rw [if_neg (fun qq => hF qq.1), hv, if_neg hF]
        · intro a2 r63 ⟨s1, s2, s3⟩
          show wq (fX3_spreadKey_i63 fu (sI key) r r63 (101 + key) (sI (pwA (16 + 4 * n))) (sI (16 + 4 * n)) s0 (sI 4) a2 L) _
          unfold fX3_spreadKey_i63 fX3_spreadKey_b148
          rw [if_pos (by decide)]
          simp only [mlet]
          have hnx : sI (16 + 4 * n) + 4 = sI (16 + 4 * (n + 1)) := by
            rw [sI_adl]
            congr 1
          rw [hnx]
          by_cases hF : frst4 n = true
          · obtain ⟨z3, z4⟩ := z1 hF
            have hw0 := s2 0 (by omega)
            rw [if_pos ⟨hF, rfl⟩] at hw0
            have hw1 : a2 (101 + key) (16 + 4 * n) = sI (schL S (fun i => key + i) (4 * n) (16 + (4 * n) - 16) ^^^ S (schL S (fun i => key + i) (4 * n) (rt4 (16 + (4 * n + 0))))) := hw0
            rw [if_neg (by rw [hs0, if_pos hF]; decide), mck_s (by omega) (by omega), mck_s (by omega) (by omega), sI_nn (by omega), hw1, sI_xor, mck_s hpl (by omega), sI_nn (by omega), mset_k (by omega), s3 99 _ (by omega), (hD _ hpl).1, z4]
            refine ih (mset a2 (101 + key) (16 + (4 * n + 0)) (sI (schL S (fun i => key + i) (4 * n) (16 + (4 * n) - 16) ^^^ S (schL S (fun i => key + i) (4 * n) (rt4 (16 + (4 * n + 0)))) ^^^ pwA (16 + (4 * n + 0))))) ⟨?_, ?_⟩
            · intro i hi
              by_cases hi0 : i = 16 + (4 * n + 0)
              · rw [hi0, mset_s]
                obtain ⟨y1, y2, y3, _, _, _⟩ := x2 0 (by omega)
                rw [show 4 * (n + 1) = 4 * n + 0 + 1 + 3 by omega, schL_st (n := 4 * n + 0 + 1) (by omega) 3]
                rw [show schL S (fun i => key + i) (4 * n + 0 + 1) (16 + (4 * n + 0)) = schV S (schL S (fun i => key + i) (4 * n)) (16 + (4 * n + 0)) from schL_v (4 * n)]
                unfold schV
                rw [if_pos (y1.trans hF), if_pos (y2.mpr ⟨hF, rfl⟩), Nat.xor_assoc]
                rw [show pwA (16 + (4 * n + 0)) = pwB (16 + (4 * n + 0)) from z3]
                rfl
              · rw [mset_j hi0]
                by_cases hlo : i < 16 + 4 * n
                · rw [s1 i hlo, show 4 * (n + 1) = 4 * n + 4 by omega, schL_st (n := 4 * n) hlo 4]
                · obtain ⟨t, rfl⟩ : ∃ t, i = 16 + (4 * n + t) := ⟨i - 16 - 4 * n, by omega⟩
                  have ht := s2 t (by omega)
                  rw [if_neg (fun qq => hi0 (by rw [qq.2]))] at ht
                  rw [ht, show 4 * (n + 1) = 4 * n + t + 1 + (3 - t) by omega, schL_st (n := 4 * n + t + 1) (by omega) (3 - t)]
            · intro b y qq
              rw [mset_k qq]; exact s3 b y qq
          · have hF' : frst4 n = false := by simpa using hF
            rw [if_pos (by rw [hs0, if_neg hF]), z2 hF']
            refine ih a2 ⟨?_, s3⟩
            intro i hi
            by_cases hlo : i < 16 + 4 * n
            · rw [s1 i hlo, show 4 * (n + 1) = 4 * n + 4 by omega, schL_st (n := 4 * n) hlo 4]
            · obtain ⟨t, rfl⟩ : ∃ t, i = 16 + (4 * n + t) := ⟨i - 16 - 4 * n, by omega⟩
              have ht := s2 t (by omega)
              rw [if_neg (fun qq => hF qq.1)] at ht
              rw [ht, show 4 * (n + 1) = 4 * n + t + 1 + (3 - t) by omega, schL_st (n := 4 * n + t + 1) (by omega) (3 - t)]
      unfold fX3_spreadKey_i37 fX3_spreadKey_b58
      rw [if_neg (by rw [sI_lle (by omega) (by omega)]; omega)]
      by_cases hF : frst4 n = true
      · rw [if_pos (x1.mpr hF)]
        exact four 1 (by rw [if_pos hF])
      · rw [if_neg (fun qq => hF (x1.mp qq))]
        exact four 0 (by rw [if_neg hF])
    · intro a r ⟨p1, p2⟩
      show wq (fX3_spreadKey_i37 fu (sI key) r (101 + key) (sI (pwA (16 + 4 * 40))) (sI (16 + 4 * 40)) a L) _
      unfold fX3_spreadKey_i37
      rw [if_pos (by decide)]
      exact wq_some ⟨rfl, fun i hi => ⟨p1 i (by omega), hlt 160 (Nat.le_refl _) i (by omega)⟩, p2⟩
  unfold DX3_spreadKey
  rw [mck_s hkey (by omega), sI_nn (by omega)]
  refine wq_for (body := fun r s => fX3_spreadKey_i12 fu (sI key) r s.1 s.2.1 s.2.2.1 s.2.2.2.1 s.2.2.2.2) (fun i (a : mwM) => (101 + key, 1, sI i, a, L)) (fun i a => (∀ y, y < i → a (101 + key) y = sI (key + y)) ∧ ∀ b y, b ≠ 101 + key → a b y = A b y) 16 ?_ ?_ 16 0 A fu (by omega) (by omega) ⟨fun y hy => by omega, fun _ _ _ => rfl⟩
  · intro i a r hi ⟨s1, s2⟩ ih
    show wq (fX3_spreadKey_i12 fu (sI key) r (101 + key) 1 (sI i) a L) _
    unfold fX3_spreadKey_i12
    rw [if_neg (by rw [sI_lle (by omega) (by omega)]; omega), mck_s (by omega) (by omega), sI_nn (by omega), sI_add]
    simp only [mlet]
    rw [sI_1]
    refine ih (mset a (101 + key) i (sI (key + i))) ⟨?_, ?_⟩
    · intro y hy
      by_cases hyi : y = i
      · rw [hyi, mset_s]
      · rw [mset_j hyi]; exact s1 y (by omega)
    · intro b y q
      rw [mset_k q]; exact s2 b y q
  · intro a r ⟨s1, s2⟩
    show wq (fX3_spreadKey_i12 fu (sI key) r (101 + key) 1 (sI 16) a L) _
    unfold fX3_spreadKey_i12
    rw [if_pos (by decide)]
    exact sched a s1 s2
/-! the second key: shifted, as both sides do it -/
def hi7 (x : Nat) : Nat := x / 128
def lo7 (x c : Nat) : Nat := (2 * x) % 256 + c
theorem hi7_lt : ∀ x, x < 256 → hi7 x < 2 := by decide +kernel
theorem lo7_lt : ∀ x, x < 256 → ∀ c, c < 2 → lo7 x c < 256 := by decide +kernel
def dbS (x : Nat → Nat) (i : Nat) : Nat := if i < 15 then lo7 (x i) (hi7 (x (i + 1))) else lo7 (x i) 0 ^^^ (if hi7 (x 0) = 1 then 135 else 0)
theorem dbS_lt {x : Nat → Nat} (hx : ∀ i, i < 16 → x i < 256) (i : Nat) (hi : i < 16) : dbS x i < 256 := by
  unfold dbS
  split
  · exact lo7_lt _ (hx i hi) _ (hi7_lt _ (hx _ (by omega)))
  · refine xor_8 (lo7_lt _ (hx i hi) 0 (by decide)) ?_
    split <;> decide
theorem sh_c : ∀ x, x < 256 → ∀ c, c < 2 → ((sI x <<< (1 &&& 31)) &&& 255) ||| sI c = sI (lo7 x c) := by decide +kernel
theorem sh_7 : ∀ x, x < 256 → sI x >>> (7 &&& 31) = sI (hi7 x) := by decide +kernel
theorem sh_m : ∀ x, x < 256 → ∀ c, c < 2 → ((2 * sI x) + sI c) &&& 255 = sI (lo7 x c) ∧ ((2 * sI x) + sI c) >>> (8 &&& 31) = sI (hi7 x) := by decide +kernel
/-- the class: one shift -/
theorem c_shift {fu : Nat} {A : mwM} {L : mwL} {key v2 : Nat} {x : Nat → Nat} {r56 : Int32 × mwM × mwL → Option (mwM × mwL)} {Q : mwM × mwL → Prop} (hf : 17 ≤ fu) (hkey : key < 17) (hx : bytes A (119 + key) 16 x) (hQ : ∀ A', bytes A' (119 + key) 16 (dbS x) → (∀ b y, b ≠ 119 + key → A' b y = A b y) → wq (r56 (sI (v2 + 1), A', L)) Q) : wq (fX3_makeSecond_h76 fu (sI key) r56 fu (sI v2, sI (hi7 (x 0)), 0, A, L)) Q := by
  have hx' : ∀ i, i < 16 → x i < 256 := fun i hi => (hx i hi).2
  have h70 := hi7_lt _ (hx' 0 (by omega))
  refine wq_for (body := fun r s => fX3_makeSecond_i76 fu (sI key) r56 r s.1 s.2.1 s.2.2.1 s.2.2.2.1 s.2.2.2.2) (fun i (a : mwM) => (sI v2, sI (hi7 (x 0)), sI i, a, L)) (fun i a => (∀ y, y < i → a (119 + key) y = sI (if y < 15 then lo7 (x y) (hi7 (x (y + 1))) else lo7 (x y) 0)) ∧ (∀ y, i ≤ y → y < 16 → a (119 + key) y = sI (x y)) ∧ ∀ b y, b ≠ 119 + key → a b y = A b y) 16 ?_ ?_ 16 0 A fu (by omega) (by omega) ⟨fun y hy => by omega, fun y _ hy => (hx y hy).1, fun _ _ _ => rfl⟩
  · intro i a r hi ⟨s1, s2, s3⟩ ih
    show wq (fX3_makeSecond_i76 fu (sI key) r56 r (sI v2) (sI (hi7 (x 0))) (sI i) a L) _
    have fin : ∀ (c : Nat), c < 2 → lo7 (x i) c = (if i < 15 then lo7 (x i) (hi7 (x (i + 1))) else lo7 (x i) 0) → wq (fX3_makeSecond_b110 fu (sI key) r56 r (sI v2) (sI (hi7 (x 0))) (sI i) (sI c) a L) Q := by
      intro c hc hv
      unfold fX3_makeSecond_b110
      simp (disch := omega) only [mlet, mck_s, sI_nn]
      rw [s2 i (Nat.le_refl _) hi, sh_c _ (hx' i hi) c hc, hv, sI_1]
      refine ih (mset a (119 + key) i (sI (if i < 15 then lo7 (x i) (hi7 (x (i + 1))) else lo7 (x i) 0))) ⟨?_, ?_, ?_⟩
      · intro y hy
        by_cases hyi : y = i
        · rw [hyi, mset_s]
        · rw [mset_j hyi]; exact s1 y (by omega)
      · intro y h1 h2
        rw [mset_j (by omega)]; exact s2 y (by omega) h2
      · intro b y q
        rw [mset_k q]; exact s3 b y q
    unfold fX3_makeSecond_i76
    rw [if_neg (by rw [sI_lle (by omega) (by omega)]; omega), sI_1]
    by_cases h15 : i + 1 = 16
    · rw [if_pos (by rw [sI_lle (by omega) (by omega)]; omega)]
      refine fin 0 (by decide) ?_
      rw [if_neg (by omega)]
    · rw [if_neg (by rw [sI_lle (by omega) (by omega)]; omega), mck_s hkey (by omega), mck_s (by omega) (by omega), sI_nn (by omega), sI_nn (by omega), s2 (i + 1) (by omega) (by omega), sh_7 _ (hx' _ (by omega))]
      refine fin _ (hi7_lt _ (hx' _ (by omega))) ?_
      rw [if_pos (by omega)]
  · intro a r ⟨s1, s2, s3⟩
    show wq (fX3_makeSecond_i76 fu (sI key) r56 r (sI v2) (sI (hi7 (x 0))) (sI 16) a L) _
    have fin : ∀ (z : Nat), z = (if hi7 (x 0) = 1 then 135 else 0) → wq (fX3_makeSecond_b167 fu (sI key) r56 (sI v2) (119 + key) 15 (sI (lo7 (x 15) 0)) (sI z) a L) Q := by
      intro z hz
      unfold fX3_makeSecond_b167
      show wq (mck (sI 15) 16 _) Q
      rw [mck_s (by omega) (by omega)]
      simp only [mlet]
      rw [sI_xor, sI_1, show (15 : Int32).toNatClampNeg = 15 from by decide]
      refine hQ (mset a (119 + key) 15 (sI (lo7 (x 15) 0 ^^^ z))) ?_ ?_
      · intro i hi
        refine ⟨?_, dbS_lt hx' i hi⟩
        unfold dbS
        by_cases hi15 : i = 15
        · rw [hi15, mset_s, if_neg (by omega), hz]
        · rw [mset_j hi15, s1 i hi, if_pos (by omega), if_pos (by omega)]
      · intro b y q
        rw [mset_k q]; exact s3 b y q
    unfold fX3_makeSecond_i76
    have e15 : a (119 + key) 15 = sI (lo7 (x 15) 0) := by rw [s1 15 (by omega), if_neg (by omega)]
    rw [if_pos (by decide), mck_s hkey (by omega), sI_nn (by omega), show (15 : Int32).toNatClampNeg = 15 from by decide, e15]
    by_cases h1 : hi7 (x 0) = 1
    · rw [if_pos (by rw [h1]; rfl)]
      exact fin 135 (by rw [if_pos h1])
    · rw [if_neg (by rw [sI_eql (by omega) (by omega)]; exact h1)]
      exact fin 0 (by rw [if_neg h1])
/-- the class: what a key's last block is mixed with -/
theorem c_second {fu : Nat} {A : mwM} {L : mwL} {key : Nat} {S rk : Nat → Nat} (hf : 17 ≤ fu) (hkey : key < 17) (hS : bytes A 98 256 S) (hD : bytes A 99 256 dblN) (hk : bytes A (101 + key) 176 rk) : wq (DX3_makeSecond fu (sI key) A L) (fun q => q.2 = L ∧ bytes q.1 (119 + key) 16 (dbS (dbS (encN S dblN rk (fun _ => 0) 10))) ∧ ∀ b y, b ≠ 137 → b ≠ 138 → b ≠ 119 + key → q.1 b y = A b y) := by
  have hS' : ∀ y, y < 256 → S y < 256 := fun y hy => (hS y hy).2
  have hk' : ∀ i, i < 176 → rk i < 256 := fun i hi => (hk i hi).2
  have he := encN_lt (x := fun _ => 0) hS' dblN_lt hk' (fun _ _ => by decide) 10 (Nat.le_refl _)
  unfold DX3_makeSecond
  refine wq_for (body := fun r s => fX3_makeSecond_i2 fu (sI key) r s.1 s.2.1 s.2.2) (fun i (a : mwM) => (sI i, a, L)) (fun i a => (∀ y, y < i → a 137 y = sI 0) ∧ ∀ b y, b ≠ 137 → a b y = A b y) 16 ?_ ?_ 16 0 A fu (by omega) (by omega) ⟨fun y hy => by omega, fun _ _ _ => rfl⟩
  · intro i a r hi ⟨s1, s2⟩ ih
    show wq (fX3_makeSecond_i2 fu (sI key) r (sI i) a L) _
    unfold fX3_makeSecond_i2
    rw [if_neg (by rw [sI_lle (by omega) (by omega)]; omega), mck_s hi (by omega), sI_nn (by omega)]
    simp only [mlet]
    rw [sI_1]
    refine ih (mset a 137 i 0) ⟨?_, ?_⟩
    · intro y hy
      by_cases hyi : y = i
      · rw [hyi, mset_s]; rfl
      · rw [mset_j hyi]; exact s1 y (by omega)
    · intro b y q
      rw [mset_k q]; exact s2 b y q
  · intro a r ⟨s1, s2⟩
    show wq (fX3_makeSecond_i2 fu (sI key) r (sI 16) a L) _
    unfold fX3_makeSecond_i2
    rw [if_pos (by decide)]
    refine wq_b2 (c_encrypt (x := fun _ => 0) hf hkey (fun y hy => by rw [s2 _ _ (by decide)]; exact hS y hy) (fun y hy => by rw [s2 _ _ (by decide)]; exact hD y hy) (fun y hy => by rw [s2 _ _ (by omega)]; exact hk y hy) (fun y hy => ⟨s1 y hy, (by decide : 0 < 256)⟩)) ?_
    rintro A1 L1 ⟨hL, e1, e2⟩
    dsimp only at hL e1 e2
    subst hL
    refine wq_for (body := fun r s => fX3_makeSecond_i28 fu (sI key) r s.1 s.2.1 s.2.2) (fun i (a2 : mwM) => (sI i, a2, L1)) (fun i a2 => (∀ y, y < i → a2 (119 + key) y = sI (encN S dblN rk (fun _ => 0) 10 y)) ∧ ∀ b y, b ≠ 119 + key → a2 b y = A1 b y) 16 ?_ ?_ 16 0 A1 fu (by omega) (by omega) ⟨fun y hy => by omega, fun _ _ _ => rfl⟩
    · intro i a2 r2 hi ⟨t1, t2⟩ ih
      show wq (fX3_makeSecond_i28 fu (sI key) r2 (sI i) a2 L1) _
      unfold fX3_makeSecond_i28
      rw [if_neg (by rw [sI_lle (by omega) (by omega)]; omega), mck_s hkey (by omega), mck_s hi (by omega), mck_s hi (by omega), sI_nn (by omega), sI_nn (by omega), t2 138 _ (by omega), (e1 i hi).1]
      simp only [mlet]
      rw [sI_1]
      refine ih (mset a2 (119 + key) i (sI (encN S dblN rk (fun _ => 0) 10 i))) ⟨?_, ?_⟩
      · intro y hy
        by_cases hyi : y = i
        · rw [hyi, mset_s]
        · rw [mset_j hyi]; exact t1 y (by omega)
      · intro b y q
        rw [mset_k q]; exact t2 b y q
    · intro a2 r2 ⟨t1, t2⟩
      show wq (fX3_makeSecond_i28 fu (sI key) r2 (sI 16) a2 L1) _
      unfold fX3_makeSecond_i28
      rw [if_pos (by decide)]
      obtain ⟨g, hg⟩ : ∃ g, fu = g + 3 := ⟨fu - 3, by omega⟩
      have b0 : bytes a2 (119 + key) 16 (encN S dblN rk (fun _ => 0) 10) := fun y hy => ⟨t1 y hy, he y hy⟩
      have step : ∀ (f v : Nat) (a3 : mwM) (x : Nat → Nat) (Q : mwM × mwL → Prop), v < 2 → bytes a3 (119 + key) 16 x → (∀ A', bytes A' (119 + key) 16 (dbS x) → (∀ b y, b ≠ 119 + key → A' b y = a3 b y) → wq (fX3_makeSecond_h56 fu (sI key) f (sI (v + 1), A', L1)) Q) → wq (fX3_makeSecond_h56 fu (sI key) (f + 1) (sI v, a3, L1)) Q := by
        intro f v a3 x Q hv hb hQ
        unfold fX3_makeSecond_h56
        rw [mloop_S]
        show wq (fX3_makeSecond_i56 fu (sI key) (fX3_makeSecond_h56 fu (sI key) f) (sI v) a3 L1) Q
        unfold fX3_makeSecond_i56
        rw [if_neg (by rw [sI_lle (by omega) (by omega)]; omega), mck_s hkey (by omega), sI_nn (by omega), show (0 : Int32).toNatClampNeg = 0 from by decide, (hb 0 (by omega)).1, sh_7 _ (hb 0 (by omega)).2]
        simp only [mlet]
        exact c_shift hf hkey hb hQ
      suffices hsf : ∀ f0, f0 = g + 3 → wq (fX3_makeSecond_h56 fu (sI key) f0 (sI 0, a2, L1)) (fun q => q.2 = L1 ∧ bytes q.1 (119 + key) 16 (dbS (dbS (encN S dblN rk (fun _ => 0) 10))) ∧ ∀ b y, b ≠ 137 → b ≠ 138 → b ≠ 119 + key → q.1 b y = A b y) from hsf fu hg
      intro f0 h0
      rw [h0]
      refine step (g + 2) 0 a2 _ _ (by decide) b0 ?_
      intro A3 c1 c2
      refine step (g + 1) 1 A3 _ _ (by decide) c1 ?_
      intro A4 d1 d2
      unfold fX3_makeSecond_h56
      rw [mloop_S]
      show wq (fX3_makeSecond_i56 fu (sI key) _ (sI 2) A4 L1) _
      unfold fX3_makeSecond_i56
      rw [if_pos (by decide)]
      refine wq_some ⟨rfl, d1, ?_⟩
      intro b y q1 q2 q3
      dsimp only
      rw [d2 b y q3, c2 b y q3, t2 b y q3, e2 b y q1 q2, s2 b y q1]
/-! the reference: the code of a short row -/
def kd (i : Nat) : Int32 := sI 15 - sI i
theorem kd_1 : ∀ i, i < 16 → kd i + (-1) = kd (i + 1) ∧ kd i = sI (15 - i) ∧ ¬ kd i < 0 := by decide +kernel
theorem kd_16 : kd 16 < 0 := by decide +kernel
theorem m_doubled {fu : Nat} {M : mwM} {L : mwL} {x : Nat → Nat} (hf : 17 ≤ fu) (hx : bytes M 866 16 x) : wq (DX14_doubled fu M L) (fun q => q.2 = L ∧ bytes q.1 866 16 (dbS x) ∧ ∀ b y, b ≠ 866 → q.1 b y = M b y) := by
  have hx' : ∀ i, i < 16 → x i < 256 := fun i hi => (hx i hi).2
  unfold DX14_doubled
  refine wq_for (body := fun r s => fX14_doubled_i5 fu r s.1 s.2.1 s.2.2.1 s.2.2.2) (fun i (a : Nat × mwM) => (sI a.1, kd i, a.2, L)) (fun i a => a.1 < 2 ∧ (0 < i → a.1 = hi7 (x (16 - i))) ∧ (i = 0 → a.1 = 0) ∧ (∀ y, y < 16 → y + i < 16 → a.2 866 y = sI (x y)) ∧ (∀ y, y < 16 → 16 ≤ y + i → a.2 866 y = sI (if y < 15 then lo7 (x y) (hi7 (x (y + 1))) else lo7 (x y) 0)) ∧ ∀ b y, b ≠ 866 → a.2 b y = M b y) 16 ?_ ?_ 16 0 (0, M) fu (by omega) (by omega) ⟨(by decide : 0 < 2), fun h => by omega, fun _ => rfl, fun y hy _ => (hx y hy).1, fun y h1 h2 => by omega, fun _ _ _ => rfl⟩
  · rintro i ⟨c, a⟩ r hi ⟨p0, p1, p1', p2, p3, p4⟩ ih
    dsimp only at p0 p1 p1' p2 p3 p4
    show wq (fX14_doubled_i5 fu r (sI c) (kd i) a L) _
    obtain ⟨k1, k2, k3⟩ := kd_1 i hi
    have hxl := hx' (15 - i) (by omega)
    obtain ⟨e1, e2⟩ := sh_m _ hxl c p0
    unfold fX14_doubled_i5
    rw [if_neg k3, k1, k2, mck_s (by omega) (by omega), sI_nn (by omega), p2 (15 - i) (by omega) (by omega)]
    simp only [mlet]
    rw [mck_s (by omega) (by omega), e1, e2]
    refine ih (hi7 (x (15 - i)), mset a 866 (15 - i) (sI (lo7 (x (15 - i)) c))) ⟨hi7_lt _ hxl, fun _ => ?_, fun h => by omega, ?_, ?_, ?_⟩
    · show hi7 (x (15 - i)) = hi7 (x (16 - (i + 1)))
      rw [show 16 - (i + 1) = 15 - i by omega]
    · intro y h1 h2
      dsimp only
      rw [mset_j (by omega)]; exact p2 y h1 (by omega)
    · intro y h1 h2
      dsimp only
      by_cases hy : y = 15 - i
      · rw [hy, mset_s]
        by_cases hi0 : i = 0
        · rw [p1' hi0, if_neg (by omega)]
        · rw [p1 (by omega), if_pos (by omega), show 15 - i + 1 = 16 - i by omega]
      · rw [mset_j hy]; exact p3 y h1 (by omega)
    · intro b y q
      dsimp only
      rw [mset_k q]; exact p4 b y q
  · rintro ⟨c, a⟩ r ⟨p0, p1, _, p2, p3, p4⟩
    dsimp only at p0 p1 p2 p3 p4
    show wq (fX14_doubled_i5 fu r (sI c) (kd 16) a L) _
    unfold fX14_doubled_i5
    have hc := p1 (by omega)
    rw [if_pos kd_16, show (15 : Int32).toNatClampNeg = 15 from by decide, p3 15 (by omega) (by omega), if_neg (by omega)]
    simp only [mlet]
    have h135 : (135 : Int32) * sI c = sI (if hi7 (x 0) = 1 then 135 else 0) := by
      have hc01 : c = 0 ∨ c = 1 := by omega
      have hc' : c = hi7 (x 0) := hc
      rcases hc01 with h | h
      · rw [h] at hc' ⊢
        rw [if_neg (by omega)]
        decide
      · rw [h] at hc' ⊢
        rw [if_pos hc'.symm]
        decide
    rw [h135, sI_xor]
    refine wq_some ⟨rfl, ?_, ?_⟩
    · intro i hi
      refine ⟨?_, dbS_lt hx' i hi⟩
      dsimp only
      unfold dbS
      by_cases hi15 : i = 15
      · rw [hi15, mset_s, if_neg (show ¬ 15 < 15 by omega)]
      · rw [mset_j hi15, p3 i hi (by omega), if_pos (by omega), if_pos (by omega)]
    · intro b y q
      dsimp only
      rw [mset_k q]; exact p4 b y q
theorem m_cipher {fu : Nat} {M : mwM} {L : mwL} {base : Nat} {S k0 x : Nat → Nat} (hf : 161 ≤ fu) (hb : base ≤ 256) (hS : bytes M 868 256 S) (hk : ∀ i, i < 16 → M 855 (base + i) = sI (k0 i) ∧ k0 i < 256) (hx : bytes M 863 16 x) : wq (DX14_cipher fu (sI base) M L) (fun q => q.2 = L ∧ bytes q.1 863 16 (encN S dblN (schL S k0 160) x 10) ∧ ∀ b y, b ≠ 863 → b ≠ 864 → b ≠ 865 → q.1 b y = M b y) := by
  have hx' : ∀ i, i < 16 → x i < 256 := fun i hi => (hx i hi).2
  have hS' : ∀ y, y < 256 → S y < 256 := fun y hy => (hS y hy).2
  unfold DX14_cipher
  refine wq_b2 (m_makeRound hf hb hS hk) ?_
  rintro M1 L1 ⟨hL, r1, r2⟩
  dsimp only at hL r1 r2
  subst hL
  refine wq_for (body := fun r s => fX14_cipher_i7 fu (sI base) r s.1 s.2.1 s.2.2) (fun i (a : mwM) => (sI i, a, L1)) (fun i a => (∀ y, y < i → a 863 y = sI (encN S dblN (schL S k0 160) x 0 y)) ∧ (∀ y, i ≤ y → y < 16 → a 863 y = sI (x y)) ∧ ∀ b y, b ≠ 863 → a b y = M1 b y) 16 ?_ ?_ 16 0 M1 fu (by omega) (by omega) ⟨fun y hy => by omega, fun y _ hy => by rw [r2 _ _ (by decide)]; exact (hx y hy).1, fun _ _ _ => rfl⟩
  · intro i a r hi ⟨s1, s2, s3⟩ ih
    show wq (fX14_cipher_i7 fu (sI base) r (sI i) a L1) _
    unfold fX14_cipher_i7
    rw [if_neg (by rw [sI_lle (by omega) (by omega)]; omega), mck_s hi (by omega), mck_s (by omega) (by omega), mck_s hi (by omega), sI_nn (by omega), s2 i (Nat.le_refl _) hi, s3 865 _ (by omega), (r1 i (by omega)).1, sI_xor]
    simp only [mlet]
    rw [sI_1]
    refine ih (mset a 863 i (sI (x i ^^^ schL S k0 160 i))) ⟨?_, ?_, ?_⟩
    · intro y hy
      by_cases hyi : y = i
      · rw [hyi, mset_s]; rfl
      · rw [mset_j hyi]; exact s1 y (by omega)
    · intro y h1 h2
      rw [mset_j (by omega)]; exact s2 y (by omega) h2
    · intro b y q
      rw [mset_k q]; exact s3 b y q
  · intro a r ⟨s1, s2, s3⟩
    show wq (fX14_cipher_i7 fu (sI base) r (sI 16) a L1) _
    unfold fX14_cipher_i7
    rw [if_pos (by decide)]
    have hk' : ∀ i, i < 176 → schL S k0 160 i < 256 := fun i hi => (r1 i hi).2
    refine wq_mono (m_rounds (x := x) (rk := schL S k0 160) (S := S) (by omega) (fun y hy => by rw [s3 _ _ (by decide), r2 _ _ (by decide)]; exact hS y hy) (fun y hy => by rw [s3 _ _ (by decide)]; exact r1 y hy) (fun y hy => ⟨s1 y hy, encN_lt hS' dblN_lt hk' hx' 0 (by omega) y hy⟩) hx') ?_
    rintro ⟨M2, L2⟩ ⟨q1, q2, q3⟩
    dsimp only at q1 q2 q3
    refine ⟨q1, q2, ?_⟩
    intro b y h1 h2 h3
    dsimp only
    rw [q3 b y h1 h2, s3 b y h1, r2 b y h3]
/-- a short row, filled up -/
def pad (n : Nat) (v : Nat → Nat) (i : Nat) : Nat := if i < n then v i else if i = n then 128 else 0
theorem pad_lt {n : Nat} {v : Nat → Nat} (hv : ∀ i, i < n → v i < 256) (i : Nat) : pad n v i < 256 := by
  unfold pad
  split
  · exact hv i (by assumption)
  · split <;> decide
/-- the code of a short row -/
def cmac (S rk : Nat → Nat) (n : Nat) (v : Nat → Nat) : Nat → Nat := encN S dblN rk (fun i => pad n v i ^^^ dbS (dbS (encN S dblN rk (fun _ => 0) 10)) i) 10
/-- the class: a code, under a key that was learnt -/
theorem c_make {fu : Nat} {A : mwM} {L : mwL} {key row len n : Nat} {S rk v : Nat → Nat} (hf : 17 ≤ fu) (hkey : key < 17) (hS : bytes A 98 256 S) (hD : bytes A 99 256 dblN) (hk : bytes A (101 + key) 176 rk) (h2 : bytes A (119 + key) 16 (dbS (dbS (encN S dblN rk (fun _ => 0) 10)))) (hn : n < 16) (hnl : n ≤ len) (hrow : row ≠ 137) (hv : bytes A row n v) : wq (DX3_make fu (sI key) row len (sI n) A L) (fun q => q.2 = L ∧ bytes q.1 138 16 (cmac S rk n v) ∧ ∀ b y, b ≠ 137 → b ≠ 138 → q.1 b y = A b y) := by
  have hv' : ∀ i, i < n → v i < 256 := fun i hi => (hv i hi).2
  unfold DX3_make
  refine wq_for (body := fun r s => fX3_make_i3 fu (sI key) row len (sI n) r s.1 s.2.1 s.2.2) (fun i (a : mwM) => (sI i, a, L)) (fun i a => (∀ y, y < i → a 137 y = sI (pad n v y ^^^ dbS (dbS (encN S dblN rk (fun _ => 0) 10)) y)) ∧ ∀ b y, b ≠ 137 → a b y = A b y) 16 ?_ ?_ 16 0 A fu (by omega) (by omega) ⟨fun y hy => by omega, fun _ _ _ => rfl⟩
  · intro i a r hi ⟨s1, s2⟩ ih
    show wq (fX3_make_i3 fu (sI key) row len (sI n) r (sI i) a L) _
    have fin : ∀ (z : Nat), z = pad n v i → wq (fX3_make_b42 fu (sI key) row len (sI n) r (sI i) (sI i) (sI z) a L) (fun q => q.2 = L ∧ bytes q.1 138 16 (cmac S rk n v) ∧ ∀ b y, b ≠ 137 → b ≠ 138 → q.1 b y = A b y) := by
      intro z hz
      unfold fX3_make_b42
      rw [mck_s hkey (by omega), mck_s hi (by omega), mck_s hi (by omega), sI_nn (by omega), sI_nn (by omega), s2 (119 + key) _ (by omega), (h2 i hi).1, sI_xor, hz]
      simp only [mlet]
      rw [sI_1]
      refine ih (mset a 137 i (sI (pad n v i ^^^ dbS (dbS (encN S dblN rk (fun _ => 0) 10)) i))) ⟨?_, ?_⟩
      · intro y hy
        by_cases hyi : y = i
        · rw [hyi, mset_s]
        · rw [mset_j hyi]; exact s1 y (by omega)
      · intro b y q
        rw [mset_k q]; exact s2 b y q
    unfold fX3_make_i3
    rw [if_neg (by rw [sI_lle (by omega) (by omega)]; omega)]
    by_cases h1 : i < n
    · rw [if_neg (by rw [sI_le (by omega) (by omega)]; omega), mck_s (by omega) (by omega), sI_nn (by omega), s2 row _ hrow, (hv i h1).1]
      exact fin _ (by unfold pad; rw [if_pos h1])
    · rw [if_pos (by rw [sI_le (by omega) (by omega)]; omega)]
      by_cases h3 : i = n
      · rw [if_pos (by rw [h3])]
        exact fin 128 (by unfold pad; rw [if_neg h1, if_pos h3])
      · rw [if_neg (by rw [sI_eq (by omega) (by omega)]; exact h3)]
        exact fin 0 (by unfold pad; rw [if_neg h1, if_neg h3])
  · intro a r ⟨s1, s2⟩
    show wq (fX3_make_i3 fu (sI key) row len (sI n) r (sI 16) a L) _
    unfold fX3_make_i3
    rw [if_pos (by decide)]
    refine wq_b2 (c_encrypt (x := fun i => pad n v i ^^^ dbS (dbS (encN S dblN rk (fun _ => 0) 10)) i) hf hkey (fun y hy => by rw [s2 _ _ (by decide)]; exact hS y hy) (fun y hy => by rw [s2 _ _ (by decide)]; exact hD y hy) (fun y hy => by rw [s2 _ _ (by omega)]; exact hk y hy) (fun y hy => ⟨s1 y hy, xor_8 (pad_lt hv' y) (h2 y hy).2⟩)) ?_
    rintro A1 L1 ⟨hL, e1, e2⟩
    dsimp only at hL e1 e2
    subst hL
    refine wq_some ⟨rfl, e1, ?_⟩
    intro b y q1 q2
    dsimp only
    rw [e2 b y q1 q2, s2 b y q1]
theorem ix_n : ∀ n, n < 16 → sI n / 16 * 16 + 16 = 16 ∧ (1 ≤ n → ¬ (sI n - sI n / 16 * 16 = 0)) := by decide +kernel
/-- the reference: the code of a short row -/
theorem m_codeOf {fu : Nat} {M : mwM} {L : mwL} {base n : Nat} {S k0 v : Nat → Nat} (hf : 161 ≤ fu) (hb : base ≤ 256) (hn : n < 16) (hn1 : 1 ≤ n) (hS : bytes M 868 256 S) (hk : ∀ i, i < 16 → M 855 (base + i) = sI (k0 i) ∧ k0 i < 256) (hv : bytes M 867 n v) : wq (DX14_codeOf fu (sI base) (sI n) M L) (fun q => q.2 = L ∧ bytes q.1 863 16 (cmac S (schL S k0 160) n v) ∧ ∀ b y, b ≠ 863 → b ≠ 864 → b ≠ 865 → b ≠ 866 → q.1 b y = M b y) := by
  have hv' : ∀ i, i < n → v i < 256 := fun i hi => (hv i hi).2
  obtain ⟨x1, x2⟩ := ix_n n hn
  have x3 := x2 hn1
  -- the last block
  have lastb : ∀ (M1 : mwM) (m : Nat → Nat), bytes M1 866 16 m → (∀ b y, b ≠ 863 → b ≠ 864 → b ≠ 865 → b ≠ 866 → M1 b y = M b y) → wq (fX14_codeOf_h104 fu (sI base) (sI n) fu (sI 16, 0, M1, L)) (fun q => q.2 = L ∧ bytes q.1 863 16 (encN S dblN (schL S k0 160) (fun i => pad n v i ^^^ m i) 10) ∧ ∀ b y, b ≠ 863 → b ≠ 864 → b ≠ 865 → b ≠ 866 → q.1 b y = M b y) := by
    intro M1 m hm hfr
    refine wq_for (body := fun r s => fX14_codeOf_i104 fu (sI base) (sI n) r s.1 s.2.1 s.2.2.1 s.2.2.2) (fun i (a : mwM) => (sI 16, sI i, a, L)) (fun i a => (∀ y, y < i → a 863 y = 0) ∧ ∀ b y, b ≠ 863 → a b y = M1 b y) 16 ?_ ?_ 16 0 M1 fu (by omega) (by omega) ⟨fun y hy => by omega, fun _ _ _ => rfl⟩
    · intro i a r hi ⟨s1, s2⟩ ih
      show wq (fX14_codeOf_i104 fu (sI base) (sI n) r (sI 16) (sI i) a L) _
      unfold fX14_codeOf_i104
      rw [if_neg (by rw [sI_lle (by omega) (by omega)]; omega), mck_s hi (by omega), sI_nn (by omega)]
      simp only [mlet]
      rw [sI_1]
      refine ih (mset a 863 i 0) ⟨?_, ?_⟩
      · intro y hy
        by_cases hyi : y = i
        · rw [hyi, mset_s]
        · rw [mset_j hyi]; exact s1 y (by omega)
      · intro b y q
        rw [mset_k q]; exact s2 b y q
    · intro a r ⟨s1, s2⟩
      show wq (fX14_codeOf_i104 fu (sI base) (sI n) r (sI 16) (sI 16) a L) _
      unfold fX14_codeOf_i104
      rw [if_pos (by decide)]
      obtain ⟨g, hg⟩ : ∃ g, fu = g + 2 := ⟨fu - 2, by omega⟩
      have h128 : fX14_codeOf_h128 fu (sI base) (sI n) fu (sI 16, 0, a, L) = fX14_codeOf_i128 fu (sI base) (sI n) (fX14_codeOf_h128 fu (sI base) (sI n) (g + 1)) (sI 16) 0 a L := by
        unfold fX14_codeOf_h128
        conv => lhs; rw [show mloop (fun r128 s => fX14_codeOf_i128 fu (sI base) (sI n) r128 s.1 s.2.1 s.2.2.1 s.2.2.2) fu = mloop (fun r128 s => fX14_codeOf_i128 fu (sI base) (sI n) r128 s.1 s.2.1 s.2.2.1 s.2.2.2) (g + 2) from by rw [hg]]
        rfl
      rw [h128]
      unfold fX14_codeOf_i128
      rw [if_neg (by decide)]
      refine wq_for (body := fun r s => fX14_codeOf_i138 fu (sI base) (sI n) (fX14_codeOf_h128 fu (sI base) (sI n) (g + 1)) r s.1 s.2.1 s.2.2.1 s.2.2.2.1 s.2.2.2.2) (fun i (a2 : mwM) => (sI 16, 0, sI i, a2, L)) (fun i a2 => (∀ y, y < i → a2 863 y = sI (pad n v y ^^^ m y)) ∧ (∀ y, i ≤ y → y < 16 → a2 863 y = 0) ∧ ∀ b y, b ≠ 863 → a2 b y = M1 b y) 16 ?_ ?_ 16 0 a fu (by omega) (by omega) ⟨fun y hy => by omega, fun y _ hy => s1 y hy, s2⟩
      · intro i a2 r2 hi ⟨t1, t2, t3⟩ ih
        show wq (fX14_codeOf_i138 fu (sI base) (sI n) (fX14_codeOf_h128 fu (sI base) (sI n) (g + 1)) r2 (sI 16) 0 (sI i) a2 L) _
        have fin : ∀ (z : Nat), z = pad n v i → wq (fX14_codeOf_b183 fu (sI base) (sI n) (fX14_codeOf_h128 fu (sI base) (sI n) (g + 1)) r2 (sI 16) 0 (sI i) (sI z) a2 L) (fun q => q.2 = L ∧ bytes q.1 863 16 (encN S dblN (schL S k0 160) (fun i => pad n v i ^^^ m i) 10) ∧ ∀ b y, b ≠ 863 → b ≠ 864 → b ≠ 865 → b ≠ 866 → q.1 b y = M b y) := by
          intro z hz
          unfold fX14_codeOf_b183 fX14_codeOf_b234
          rw [mck_s hi (by omega), mck_s hi (by omega), sI_nn (by omega), t2 i (Nat.le_refl _) hi]
          simp only [mlet]
          rw [show (0 : Int32) ^^^ sI z = sI z from by rw [show (0 : Int32) = sI 0 from rfl, sI_xor, Nat.zero_xor]]
          rw [if_pos (show (0 : Int32) + 16 = sI 16 from by decide), mck_s hi (by omega), mck_s hi (by omega), mck_s hi (by omega), mset_s, mset_k (a := 866) (by decide), t3 866 _ (by decide), (hm i hi).1, sI_xor, hz, sI_1, mset_mset]
          refine ih (mset a2 863 i (sI (pad n v i ^^^ m i))) ⟨?_, ?_, ?_⟩
          · intro y hy
            by_cases hyi : y = i
            · rw [hyi, mset_s]
            · rw [mset_j hyi]; exact t1 y (by omega)
          · intro y h1 h2
            rw [mset_j (by omega)]; exact t2 y (by omega) h2
          · intro b y q
            rw [mset_k q]; exact t3 b y q
        unfold fX14_codeOf_i138
        rw [if_neg (by rw [sI_lle (by omega) (by omega)]; omega), show (0 : Int32) + sI i = sI i from Int32.zero_add _]
        by_cases h1 : i < n
        · rw [if_neg (by rw [sI_le (by omega) (by omega)]; omega), mck_s (by omega) (by omega), sI_nn (by omega), t3 867 _ (by decide), hfr 867 _ (by decide) (by decide) (by decide) (by decide), (hv i h1).1]
          exact fin _ (by unfold pad; rw [if_pos h1])
        · rw [if_pos (by rw [sI_le (by omega) (by omega)]; omega)]
          by_cases h3 : i = n
          · rw [if_pos (by rw [h3])]
            exact fin 128 (by unfold pad; rw [if_neg h1, if_pos h3])
          · rw [if_neg (by rw [sI_eq (by omega) (by omega)]; exact h3)]
            exact fin 0 (by unfold pad; rw [if_neg h1, if_neg h3])
      · intro a2 r2 ⟨t1, t2, t3⟩
        show wq (fX14_codeOf_i138 fu (sI base) (sI n) (fX14_codeOf_h128 fu (sI base) (sI n) (g + 1)) r2 (sI 16) 0 (sI 16) a2 L) _
        unfold fX14_codeOf_i138
        rw [if_pos (by decide)]
        refine wq_b2 (m_cipher (x := fun i => pad n v i ^^^ m i) hf hb (fun y hy => by rw [t3 _ _ (by decide), hfr _ _ (by decide) (by decide) (by decide) (by decide)]; exact hS y hy) (fun i hi => by rw [t3 _ _ (by decide), hfr _ _ (by decide) (by decide) (by decide) (by decide)]; exact hk i hi) (fun y hy => ⟨t1 y hy, xor_8 (pad_lt hv' y) (hm y hy).2⟩)) ?_
        rintro M3 L3 ⟨hL, e1, e2⟩
        dsimp only at hL e1 e2
        subst hL
        simp only [mlet]
        have hend : fX14_codeOf_h128 fu (sI base) (sI n) (g + 1) (sI 16, 0 + 16, M3, L3) = some (M3, L3) := by
          unfold fX14_codeOf_h128
          rw [mloop_S]
          show fX14_codeOf_i128 fu (sI base) (sI n) _ (sI 16) (0 + 16) M3 L3 = _
          unfold fX14_codeOf_i128
          rw [if_pos (by decide)]
        rw [hend]
        refine wq_some ⟨rfl, e1, ?_⟩
        intro b y h1 h2 h3 h4
        dsimp only
        rw [e2 b y h1 h2 h3, t3 b y h1, hfr b y h1 h2 h3 h4]
  unfold DX14_codeOf
  refine wq_for (body := fun r s => fX14_codeOf_i2 fu (sI base) (sI n) r s.1 s.2.1 s.2.2) (fun i (a : mwM) => (sI i, a, L)) (fun i a => (∀ y, y < i → a 863 y = sI 0) ∧ ∀ b y, b ≠ 863 → a b y = M b y) 16 ?_ ?_ 16 0 M fu (by omega) (by omega) ⟨fun y hy => by omega, fun _ _ _ => rfl⟩
  · intro i a r hi ⟨s1, s2⟩ ih
    show wq (fX14_codeOf_i2 fu (sI base) (sI n) r (sI i) a L) _
    unfold fX14_codeOf_i2
    rw [if_neg (by rw [sI_lle (by omega) (by omega)]; omega), mck_s hi (by omega), sI_nn (by omega)]
    simp only [mlet]
    rw [sI_1]
    refine ih (mset a 863 i 0) ⟨?_, ?_⟩
    · intro y hy
      by_cases hyi : y = i
      · rw [hyi, mset_s]; rfl
      · rw [mset_j hyi]; exact s1 y (by omega)
    · intro b y q
      rw [mset_k q]; exact s2 b y q
  · intro a r ⟨s1, s2⟩
    show wq (fX14_codeOf_i2 fu (sI base) (sI n) r (sI 16) a L) _
    unfold fX14_codeOf_i2
    rw [if_pos (by decide)]
    refine wq_b2 (m_cipher (x := fun _ => 0) hf hb (fun y hy => by rw [s2 _ _ (by decide)]; exact hS y hy) (fun i hi => by rw [s2 _ _ (by decide)]; exact hk i hi) (fun y hy => ⟨s1 y hy, (by decide : 0 < 256)⟩)) ?_
    rintro M1 L1 ⟨hL, e1, e2⟩
    dsimp only at hL e1 e2
    subst hL
    refine wq_for (body := fun r s => fX14_codeOf_i28 fu (sI base) (sI n) r s.1 s.2.1 s.2.2) (fun i (a2 : mwM) => (sI i, a2, L1)) (fun i a2 => (∀ y, y < i → a2 866 y = sI (encN S dblN (schL S k0 160) (fun _ => 0) 10 y)) ∧ ∀ b y, b ≠ 866 → a2 b y = M1 b y) 16 ?_ ?_ 16 0 M1 fu (by omega) (by omega) ⟨fun y hy => by omega, fun _ _ _ => rfl⟩
    · intro i a2 r2 hi ⟨t1, t2⟩ ih
      show wq (fX14_codeOf_i28 fu (sI base) (sI n) r2 (sI i) a2 L1) _
      unfold fX14_codeOf_i28
      rw [if_neg (by rw [sI_lle (by omega) (by omega)]; omega), mck_s hi (by omega), mck_s hi (by omega), sI_nn (by omega), t2 863 _ (by decide), (e1 i hi).1]
      simp only [mlet]
      rw [sI_1]
      refine ih (mset a2 866 i (sI (encN S dblN (schL S k0 160) (fun _ => 0) 10 i))) ⟨?_, ?_⟩
      · intro y hy
        by_cases hyi : y = i
        · rw [hyi, mset_s]
        · rw [mset_j hyi]; exact t1 y (by omega)
      · intro b y q
        rw [mset_k q]; exact t2 b y q
    · intro a2 r2 ⟨t1, t2⟩
      show wq (fX14_codeOf_i28 fu (sI base) (sI n) r2 (sI 16) a2 L1) _
      unfold fX14_codeOf_i28 fX14_codeOf_b71 fX14_codeOf_b72 fX14_codeOf_b81 fX14_codeOf_b99
      rw [if_pos (by decide)]
      refine wq_b2 (m_doubled (by omega) (fun y hy => ⟨t1 y hy, (e1 y hy).2⟩)) ?_
      rintro M2 L2 ⟨hL2, d1, d2⟩
      dsimp only at hL2 d1 d2
      subst hL2
      rw [if_neg (by rw [sI_lel (by omega) (by decide)]; exact fun q => by have := Nat.le_zero.mp q; omega), if_neg x3, if_pos rfl]
      refine wq_b2 (m_doubled (by omega) d1) ?_
      rintro M3 L3 ⟨hL3, f1, f2⟩
      dsimp only at hL3 f1 f2
      subst hL3
      rw [if_pos rfl, x1]
      refine lastb M3 _ f1 ?_
      intro b y h1 h2 h3 h4
      rw [f2 b y h4, d2 b y h4, t2 b y h4, e2 b y h1 h2 h3, s2 b y h1]
theorem m_code {fu : Nat} {M : mwM} {L : mwL} {k n : Nat} {S k0 v : Nat → Nat} (hf : 161 ≤ fu) (hk1 : 1 ≤ k) (hk2 : k ≤ 16) (hn : n < 16) (hn1 : 1 ≤ n) (h1 : M 854 1 = 16) (h6 : M 854 6 = sI n) (hS : bytes M 868 256 S) (hk : ∀ i, i < 16 → M 855 (16 * k + i) = sI (k0 i) ∧ k0 i < 256) (hv : bytes M 858 n v) : wq (DX14_code fu (sI k) 32 M L) (fun q => q.2.2 = L ∧ bytes q.2.1 859 4 (cmac S (schL S k0 160) n v) ∧ q.2.1 854 6 = 0 ∧ q.2.1 854 7 = 4 ∧ ∀ b y, ¬ (b = 854 ∧ (y = 0 ∨ y = 6 ∨ y = 7)) → b ≠ 859 → ¬ (863 ≤ b ∧ b ≤ 867) → q.2.1 b y = M b y) := by
  unfold DX14_code DX14_noKey fX14_noKey_b23
  simp only [mlet]
  rw [if_neg (by rw [sI_ltl (by omega) (by omega)]; omega), mset_j (a := 854) (by decide), h1, if_pos (by rw [sI_lel (by omega) (by omega)]; exact hk2)]
  show wq (mb3 (some ((0 : Int32), mset M 854 0 0, L)) _) _
  rw [mb3_s, if_pos rfl, if_neg (by decide), if_pos (by decide)]
  refine wq_for (body := fun r s => fX14_code_i28 fu (sI k) 32 r s.1 s.2.1 s.2.2) (fun i (a : mwM) => (sI i, a, L)) (fun i a => (∀ y, y < i → a 867 y = sI (v y)) ∧ ∀ b y, b ≠ 867 → a b y = mset M 854 0 0 b y) n ?_ ?_ n 0 (mset M 854 0 0) fu (by omega) (by omega) ⟨fun y hy => by omega, fun _ _ _ => rfl⟩
  · intro i a r hi ⟨s1, s2⟩ ih
    show wq (fX14_code_i28 fu (sI k) 32 r (sI i) a L) _
    unfold fX14_code_i28
    rw [s2 854 6 (by decide), mset_j (a := 854) (by decide), h6, if_neg (by rw [sI_le (by omega) (by omega)]; omega), mck_s (by omega) (by omega), mck_s (by omega) (by omega), sI_nn (by omega), s2 858 _ (by decide), mset_k (a := 858) (by decide), (hv i hi).1]
    simp only [mlet]
    rw [sI_1]
    refine ih (mset a 867 i (sI (v i))) ⟨?_, ?_⟩
    · intro y hy
      by_cases hyi : y = i
      · rw [hyi, mset_s]
      · rw [mset_j hyi]; exact s1 y (by omega)
    · intro b y q
      rw [mset_k q]; exact s2 b y q
  · intro a r ⟨s1, s2⟩
    show wq (fX14_code_i28 fu (sI k) 32 r (sI n) a L) _
    unfold fX14_code_i28
    have e6 : a 854 6 = sI n := by rw [s2 854 6 (by decide), mset_j (by decide)]; exact h6
    rw [e6, if_pos (by rw [sI_le (by omega) (by omega)]; omega), sI_lml]
    refine wq_b2 (m_codeOf (S := S) (k0 := k0) (v := v) hf (show 16 * k ≤ 256 by omega) hn hn1 (fun y hy => by rw [s2 _ _ (by decide), mset_k (by decide)]; exact hS y hy) (fun i hi => by rw [s2 _ _ (by decide), mset_k (by decide)]; exact hk i hi) (fun y hy => ⟨s1 y hy, (hv y hy).2⟩)) ?_
    rintro M1 L1 ⟨hL, c1, c2⟩
    dsimp only at hL c1 c2
    subst hL
    -- the four octets are told
    have tell : wq (DX14_tell fu 4 M1 L1) (fun q => q.1 = 4 ∧ q.2.2 = L1 ∧ bytes q.2.1 859 4 (cmac S (schL S k0 160) n v) ∧ q.2.1 854 6 = 0 ∧ q.2.1 854 7 = 4 ∧ ∀ b y, ¬ (b = 854 ∧ (y = 6 ∨ y = 7)) → b ≠ 859 → q.2.1 b y = M1 b y) := by
      unfold DX14_tell
      refine wq_for (body := fun r s => fX14_tell_i2 fu 4 r s.1 s.2.1 s.2.2) (fun i (a2 : mwM) => (sI i, a2, L1)) (fun i a2 => (∀ y, y < i → a2 859 y = sI (cmac S (schL S k0 160) n v y)) ∧ ∀ b y, b ≠ 859 → a2 b y = M1 b y) 4 ?_ ?_ 4 0 M1 fu (by omega) (by omega) ⟨fun y hy => by omega, fun _ _ _ => rfl⟩
      · intro i a2 r2 hi ⟨t1, t2⟩ ih
        show wq (fX14_tell_i2 fu 4 r2 (sI i) a2 L1) _
        unfold fX14_tell_i2
        rw [if_neg (by rw [sI_lle (by omega) (by omega)]; omega), mck_s (by omega) (by omega), mck_s (by omega) (by omega), sI_nn (by omega), t2 863 _ (by decide), (c1 i (by omega)).1]
        simp only [mlet]
        rw [sI_1]
        refine ih (mset a2 859 i (sI (cmac S (schL S k0 160) n v i))) ⟨?_, ?_⟩
        · intro y hy
          by_cases hyi : y = i
          · rw [hyi, mset_s]
          · rw [mset_j hyi]; exact t1 y (by omega)
        · intro b y q
          rw [mset_k q]; exact t2 b y q
      · intro a2 r2 ⟨t1, t2⟩
        show wq (fX14_tell_i2 fu 4 r2 (sI 4) a2 L1) _
        unfold fX14_tell_i2
        rw [if_pos (by decide)]
        simp only [mlet]
        refine wq_some ⟨rfl, rfl, ?_, ?_, ?_, ?_⟩
        all_goals (try dsimp only)
        · intro i hi
          refine ⟨?_, (c1 i (by omega)).2⟩
          rw [mset_k (by decide), mset_k (by decide)]; exact t1 i hi
        · rw [mset_s]
        · rw [mset_j (by decide), mset_s]
        · intro b y q1 q2
          rw [mset_n (by omega), mset_n (by omega)]; exact t2 b y q2
    rw [show ((32 : Int32) + 7) / 8 = 4 from by decide]
    refine wq_b3 tell ?_
    rintro r4 M2 L2 ⟨e1, e2, e3, e4, e5, e7⟩
    dsimp only at e1 e2 e3 e4 e5 e7
    subst e1 e2
    obtain ⟨g, hg⟩ : ∃ g, fu = g + 1 := ⟨fu - 1, by omega⟩
    have hend : fX14_code_h81 fu (sI k) 32 fu (4, 32, M2, L2) = some (4, M2, L2) := by
      unfold fX14_code_h81
      conv => lhs; rw [show mloop (fun r81 s => fX14_code_i81 fu (sI k) 32 r81 s.1 s.2.1 s.2.2.1 s.2.2.2) fu = mloop (fun r81 s => fX14_code_i81 fu (sI k) 32 r81 s.1 s.2.1 s.2.2.1 s.2.2.2) (g + 1) from by rw [hg]]
      rw [mloop_S]
      show fX14_code_i81 fu (sI k) 32 _ 4 32 M2 L2 = _
      unfold fX14_code_i81
      rw [if_pos (by decide)]
    rw [hend]
    refine wq_some ⟨rfl, e3, e4, e5, ?_⟩
    intro b y q1 q2 q3
    dsimp only
    rw [e7 b y (by omega) q2, c2 b y (by omega) (by omega) (by omega) (by omega), s2 b y (by omega), mset_n (by omega)]
/-- an octet of a code, as the reference tells it: with its sign, which a mask takes away -/
theorem m_out {fu : Nat} {M : mwM} {L : mwL} {i x : Nat} (hi : i < 4) (h7 : M 854 7 = 4) (hx : M 859 i = sI x) (hx2 : x < 256) : ∃ z, DX14_out fu (sI i) M L = some (z, mset M 854 0 0, L) ∧ z &&& 255 = sI x := by
  have h8 : ∀ x, x < 256 → (sI x).toInt8.toInt32.toInt8.toInt32 = (sI x).toInt8.toInt32 ∧ (sI x).toInt8.toInt32 &&& 255 = sI x := by decide +kernel
  obtain ⟨q1, q2⟩ := h8 x hx2
  refine ⟨(sI x).toInt8.toInt32, ?_, q2⟩
  unfold DX14_out fX14_out_b18 fX14_out_b39
  rw [if_neg (by rw [sI_ltl (by omega) (by decide)]; exact Nat.not_lt_zero _), h7, if_pos (by rw [sI_ltl (by omega) (by omega)]; exact hi)]
  simp only [mlet]
  rw [mset_s, if_pos (by decide), mck_s (by omega) (by omega), sI_nn (by omega), mset_k (a := 859) (by decide), hx]
  unfold mbb
  rw [if_pos q1]
theorem m_octet {fu : Nat} {M : mwM} {L : mwL} {n x : Nat} (hn : n < 300) (h6 : M 854 6 = sI n) (hx : x < 256) (z : Int32) (hz : z &&& 255 = sI x) : DX14_octet fu z M L = some (mset (mset (mset M 854 0 0) 858 n (sI x)) 854 6 (sI (n + 1)), L) := by
  unfold DX14_octet
  simp only [mlet]
  rw [mset_j (a := 854) (by decide), h6, if_neg (by rw [sI_eql (by omega) (by omega)]; omega), mck_s hn (by omega), sI_nn (by omega), hz, mset_k (a := 854) (k := 858) (by decide), mset_j (a := 854) (by decide), h6, sI_1]
/-! CHARTS: the tree of states, on both sides -/
def Tr (N : Nat) (pa kd de : Nat → Nat) : Prop := N ≤ 200 ∧ pa 0 = 0 ∧ kd 0 = 0 ∧ de 0 = 0 ∧ ∀ s, 1 ≤ s → s ≤ N → pa s < s ∧ de s = de (pa s) + 1 ∧ de s ≤ 40 ∧ kd s ≤ 5 ∧ kd (pa s) ≤ 1
def TrC (A : mwM) (k N : Nat) (pa kd de : Nat → Nat) : Prop := A k 7 = sI N ∧ ∀ s, s ≤ N → A (k + 2) s = sI (pa s) ∧ A (k + 3) s = sI (kd s) ∧ A (k + 4) s = sI (de s)
def TrM (M : mwM) (q N : Nat) (pa kd de : Nat → Nat) : Prop := M q 2 = sI N ∧ ∀ s, s ≤ N → M (q + 2) s = sI (pa s) ∧ M (q + 1) s = sI (kd s) ∧ M (q + 3) s = sI (de s)
theorem Tr_pa {N : Nat} {pa kd de : Nat → Nat} (h : Tr N pa kd de) {s : Nat} (hs : s ≤ N) : pa s ≤ N ∧ pa s ≤ 200 ∧ s ≤ 200 ∧ kd s ≤ 5 ∧ de s ≤ 40 := by
  obtain ⟨h1, h2, h3, h4, h5⟩ := h
  rcases Nat.eq_zero_or_pos s with rfl | q
  · rw [h2, h3, h4]; omega
  · obtain ⟨w1, w2, w3, w4, w5⟩ := h5 s q hs
    omega
/-- whether s lies inside d -/
def insF (pa : Nat → Nat) (d : Nat) : Nat → Nat → Bool
  | 0, _ => false
  | f + 1, s => if s = 0 then false else if pa s = d then true else insF pa d f (pa s)
def insB (pa de : Nat → Nat) (d s : Nat) : Bool := insF pa d (de s) s
theorem ins_0 {N : Nat} {pa kd de : Nat → Nat} (h : Tr N pa kd de) (d : Nat) : insB pa de d 0 = false := by
  unfold insB
  rw [h.2.2.2.1]
  rfl
theorem ins_S {N : Nat} {pa kd de : Nat → Nat} (h : Tr N pa kd de) {d s : Nat} (h1 : 1 ≤ s) (hs : s ≤ N) : insB pa de d s = (decide (pa s = d) || insB pa de d (pa s)) := by
  obtain ⟨w1, w2, w3, w4, w5⟩ := h.2.2.2.2 s h1 hs
  unfold insB
  rw [w2]
  show (if s = 0 then false else if pa s = d then true else insF pa d (de (pa s)) (pa s)) = _
  rw [if_neg (by omega)]
  by_cases hq : pa s = d
  · rw [if_pos hq]; simp [hq]
  · rw [if_neg hq]; simp [hq]
/-- every state lies inside the root -/
theorem ins_root {N : Nat} {pa kd de : Nat → Nat} (h : Tr N pa kd de) : ∀ s, 1 ≤ s → s ≤ N → insB pa de 0 s = true := by
  intro s
  induction s using Nat.strongRecOn with
  | _ s ih =>
    intro h1 hs
    obtain ⟨w1, w2, w3, w4, w5⟩ := h.2.2.2.2 s h1 hs
    rw [ins_S h h1 hs]
    by_cases hq : pa s = 0
    · simp [hq]
    · rw [ih (pa s) w1 (by omega) (by omega)]
      simp
/-- what lies inside d has a greater number, and is deeper -/
theorem ins_lt {N : Nat} {pa kd de : Nat → Nat} (h : Tr N pa kd de) {d : Nat} : ∀ s, s ≤ N → insB pa de d s = true → d < s ∧ de d < de s := by
  intro s
  induction s using Nat.strongRecOn with
  | _ s ih =>
    intro hs hi
    rcases Nat.eq_zero_or_pos s with rfl | q
    · rw [ins_0 h] at hi; cases hi
    · obtain ⟨w1, w2, w3, w4, w5⟩ := h.2.2.2.2 s q hs
      rw [ins_S h q hs, Bool.or_eq_true, decide_eq_true_eq] at hi
      rcases hi with rfl | hi
      · omega
      · have := ih (pa s) w1 (by omega) hi
        omega
def bI (b : Bool) : Int32 := if b = true then 1 else 0
theorem bI_t : bI true = 1 := rfl
theorem bI_f : bI false = 0 := rfl
theorem bI_1 {b : Bool} : (bI b = 1) ↔ b = true := by cases b <;> decide
theorem bI_0 {b : Bool} : (bI b = 0) ↔ b = false := by cases b <;> decide
theorem bI_z {b : Bool} : bI b = 0 ∨ bI b = 1 := by cases b <;> decide
theorem bI_n {b : Bool} : vp_nar .boolean (bI b) = bI b := by cases b <;> decide
/-- the class: up the tree -/
theorem c_isIn {fu : Nat} {A : mwM} {L : mwL} {k N s d : Nat} {pa kd de : Nat → Nat} (hf : 43 ≤ fu) (hT : Tr N pa kd de) (hC : TrC A k N pa kd de) (hs : s ≤ N) (hd : d ≤ N) : DX2_isIn fu k (sI s) (sI d) A L = some (bI (insB pa de d s), A, L) := by
  have key : ∀ (n s v f : Nat), de s = n → s ≤ N → v + n ≤ 40 → n < f → fX2_isIn_h5 fu k (sI s) (sI d) f (sI s, sI v, A, L) = some (bI (insB pa de d s), A, L) ∧ ∀ s0, fX2_isIn_h5 fu k s0 (sI d) f (sI s, sI v, A, L) = some (bI (insB pa de d s), A, L) := by
    intro n
    induction n with
    | zero =>
      intro s v f hn hs hv hf1
      obtain ⟨g, rfl⟩ : ∃ g, f = g + 1 := ⟨f - 1, by omega⟩
      have h0 : s = 0 := by
        rcases Nat.eq_zero_or_pos s with q | q
        · exact q
        · have := (hT.2.2.2.2 s q hs).2.1
          omega
      subst h0
      have e : ∀ s0, fX2_isIn_h5 fu k s0 (sI d) (g + 1) (sI 0, sI v, A, L) = some (bI (insB pa de d 0), A, L) := by
        intro s0
        unfold fX2_isIn_h5
        rw [mloop_S]
        show fX2_isIn_i5 fu k s0 (sI d) _ (sI 0) (sI v) A L = _
        unfold fX2_isIn_i5 fX2_isIn_b38
        rw [if_neg (by rw [sI_llt (by omega) (by omega)]; omega), if_pos (show sI 0 = 0 from rfl), ins_0 hT]
        rfl
      exact ⟨e _, e⟩
    | succ n ih =>
      intro s v f hn hs hv hf1
      obtain ⟨g, rfl⟩ : ∃ g, f = g + 1 := ⟨f - 1, by omega⟩
      have h1 : 1 ≤ s := by
        rcases Nat.eq_zero_or_pos s with q | q
        · rw [q, hT.2.2.2.1] at hn; omega
        · exact q
      have hp := Tr_pa hT hs
      obtain ⟨w1, w2, w3, w4, w5⟩ := hT.2.2.2.2 s h1 hs
      have e : ∀ s0, fX2_isIn_h5 fu k s0 (sI d) (g + 1) (sI s, sI v, A, L) = some (bI (insB pa de d s), A, L) := by
        intro s0
        unfold fX2_isIn_h5
        rw [mloop_S]
        show fX2_isIn_i5 fu k s0 (sI d) (fX2_isIn_h5 fu k s0 (sI d) g) (sI s) (sI v) A L = _
        unfold fX2_isIn_i5
        have hN := hT.1
        rw [if_neg (by rw [sI_llt (by omega) (by omega)]; omega), if_neg (by rw [sI_eql (by omega) (by decide)]; show ¬ s = 0; omega), mck_s (by omega) (by omega), sI_nn (by omega), (hC.2 s hs).1]
        simp only [mlet]
        rw [ins_S hT h1 hs]
        by_cases hq : pa s = d
        · rw [if_pos (by rw [hq])]
          simp [hq, bI_t]
        · rw [if_neg (by rw [sI_eq (by omega) (by omega)]; exact hq), sI_1, (ih (pa s) (v + 1) g (by omega) (by omega) (by omega) (by omega)).2 s0]
          simp [hq]
      exact ⟨e _, e⟩
  have hp := Tr_pa hT hs
  unfold DX2_isIn
  exact (key (de s) s 0 fu rfl hs (by omega) (by omega)).2 (sI s)
/-- the reference: up the tree -/
theorem m_inside {fu : Nat} {M : mwM} {L : mwL} {q N s d : Nat} {pa kd de : Nat → Nat} (hf : 42 ≤ fu) (hT : Tr N pa kd de) (hM : TrM M q N pa kd de) (hs : s ≤ N) (hd : d ≤ N) : DX13_inside fu q (sI s) (sI d) M L = some (bI (insB pa de d s), M, L) := by
  have key : ∀ (n s f : Nat), de s = n → s ≤ N → n < f → ∀ s0, fX13_inside_h2 fu q s0 (sI d) f (sI s, M, L) = some (bI (insB pa de d s), M, L) := by
    intro n
    induction n with
    | zero =>
      intro s f hn hs hf1 s0
      obtain ⟨g, rfl⟩ : ∃ g, f = g + 1 := ⟨f - 1, by omega⟩
      have h0 : s = 0 := by
        rcases Nat.eq_zero_or_pos s with q | q
        · exact q
        · have := (hT.2.2.2.2 s q hs).2.1
          omega
      subst h0
      unfold fX13_inside_h2
      rw [mloop_S]
      show fX13_inside_i2 fu q s0 (sI d) _ (sI 0) M L = _
      unfold fX13_inside_i2
      rw [if_pos (show sI 0 = 0 from rfl), ins_0 hT]
      rfl
    | succ n ih =>
      intro s f hn hs hf1 s0
      obtain ⟨g, rfl⟩ : ∃ g, f = g + 1 := ⟨f - 1, by omega⟩
      have h1 : 1 ≤ s := by
        rcases Nat.eq_zero_or_pos s with q | q
        · rw [q, hT.2.2.2.1] at hn; omega
        · exact q
      have hp := Tr_pa hT hs
      have hN := hT.1
      obtain ⟨w1, w2, w3, w4, w5⟩ := hT.2.2.2.2 s h1 hs
      unfold fX13_inside_h2
      rw [mloop_S]
      show fX13_inside_i2 fu q s0 (sI d) (fX13_inside_h2 fu q s0 (sI d) g) (sI s) M L = _
      unfold fX13_inside_i2
      rw [if_neg (by rw [sI_eql (by omega) (by decide)]; show ¬ s = 0; omega), mck_s (by omega) (by omega), sI_nn (by omega), (hM.2 s hs).1]
      simp only [mlet]
      rw [ins_S hT h1 hs]
      by_cases hq : pa s = d
      · rw [if_pos (by rw [hq])]
        simp [hq, bI_t]
      · rw [if_neg (by rw [sI_eq (by omega) (by omega)]; exact hq), ih (pa s) g (by omega) (by omega) (by omega) s0]
        simp [hq]
  have hp := Tr_pa hT hs
  unfold DX13_inside
  exact key (de s) s fu rfl hs (by omega) (sI s)
theorem TrC_f {A A' : mwM} {k N : Nat} {pa kd de : Nat → Nat} (h : TrC A k N pa kd de) (h7 : A' k 7 = A k 7) (hf : ∀ b s, k + 2 ≤ b → b ≤ k + 4 → A' b s = A b s) : TrC A' k N pa kd de := by
  refine ⟨h7.trans h.1, fun s hs => ?_⟩
  rw [hf _ _ (by omega) (by omega), hf _ _ (by omega) (by omega), hf _ _ (by omega) (by omega)]
  exact h.2 s hs
theorem TrM_f {M M' : mwM} {q N : Nat} {pa kd de : Nat → Nat} (h : TrM M q N pa kd de) (h2 : M' q 2 = M q 2) (hf : ∀ b s, q + 1 ≤ b → b ≤ q + 3 → M' b s = M b s) : TrM M' q N pa kd de := by
  refine ⟨h2.trans h.1, fun s hs => ?_⟩
  rw [hf _ _ (by omega) (by omega), hf _ _ (by omega) (by omega), hf _ _ (by omega) (by omega)]
  exact h.2 s hs
/-- the class: what lies inside d is marked -/
theorem c_markInside {fu : Nat} {A : mwM} {L : mwL} {k N d : Nat} {pa kd de : Nat → Nat} (hf : 202 ≤ fu) (hT : Tr N pa kd de) (hC : TrC A k N pa kd de) (hd : d ≤ N) : wq (DX2_markInside fu k (sI d) A L) (fun q => q.2 = L ∧ (∀ s, s ≤ N → q.1 (k + 16) s = bI (insB pa de d s)) ∧ ∀ b y, b ≠ k + 16 → q.1 b y = A b y) := by
  have hN := hT.1
  unfold DX2_markInside
  simp only [mlet]
  refine wq_for (body := fun r s => fX2_markInside_i12 fu k (sI d) r s.1 s.2.1 s.2.2) (fun i (a : mwM) => (sI i, a, L)) (fun i a => 1 ≤ i ∧ (∀ s, s < i → a (k + 16) s = bI (insB pa de d s)) ∧ ∀ b y, b ≠ k + 16 → a b y = A b y) (N + 1) ?_ ?_ N 1 _ fu (by omega) (by omega) ⟨Nat.le_refl _, ?_, ?_⟩
  · intro i a r hi ⟨h1i, p1, p2⟩ ih
    have hp := Tr_pa hT (s := i) (by omega)
    obtain ⟨w1, w2, w3, w4, w5⟩ := hT.2.2.2.2 i (by omega) (by omega)
    show wq (fX2_markInside_i12 fu k (sI d) r (sI i) a L) _
    unfold fX2_markInside_i12 fX2_markInside_b55 fX2_markInside_b60
    rw [p2 k 7 (by omega), hC.1, if_neg (by rw [sI_lt (by omega) (by omega)]; omega), mck_s (by omega) (by omega), sI_nn (by omega), p2 (k + 2) i (by omega), (hC.2 i (by omega)).1]
    simp only [mlet]
    rw [mck_s (by omega) (by omega), mck_s (by omega) (by omega), sI_nn (by omega), p1 (pa i) w1, sI_1]
    have go : ∀ v, v = bI (insB pa de d i) → wq (r (sI (i + 1), mset a (k + 16) i v, L)) (fun q => q.2 = L ∧ (∀ s, s ≤ N → q.1 (k + 16) s = bI (insB pa de d s)) ∧ ∀ b y, b ≠ k + 16 → q.1 b y = A b y) := by
      intro v hv
      refine ih _ ⟨by omega, ?_, ?_⟩
      · intro s hs
        by_cases hsi : s = i
        · rw [hsi, mset_s]; exact hv
        · rw [mset_j hsi]; exact p1 s (by omega)
      · intro b y hb
        rw [mset_k hb]; exact p2 b y hb
    have e := ins_S hT (d := d) (s := i) (by omega) (by omega)
    by_cases hq : pa i = d
    · rw [if_pos (by rw [hq])]
      refine go 1 ?_
      rw [e, hq]; simp [bI_t]
    · rw [if_neg (by rw [sI_eq (by omega) (by omega)]; exact hq)]
      by_cases hb : insB pa de d (pa i) = true
      · rw [if_pos (bI_1.mpr hb)]
        refine go 1 ?_
        rw [e, hb]; simp [bI_t]
      · have hb' : insB pa de d (pa i) = false := by simpa using hb
        rw [if_neg (fun q => hb (bI_1.mp q)), mck_s (by omega) (by omega)]
        refine go 0 ?_
        rw [e, hb']; simp [hq, bI_f]
  · intro a r ⟨_, p1, p2⟩
    show wq (fX2_markInside_i12 fu k (sI d) r (sI (N + 1)) a L) _
    unfold fX2_markInside_i12
    rw [p2 k 7 (by omega), hC.1, if_pos (by rw [sI_lt (by omega) (by omega)]; omega)]
    exact wq_some ⟨rfl, fun s hs => p1 s (by omega), p2⟩
  · intro s hs
    have : s = 0 := by omega
    subst this
    rw [ins_0 hT]
    exact mset_s
  · intro b y hb
    exact mset_k hb
/-! the edges of a chart -/
def Ed (N E : Nat) (kd fr to ev gu : Nat → Nat) : Prop := E ≤ 400 ∧ ∀ e, 1 ≤ e → e ≤ E → 1 ≤ fr e ∧ fr e ≤ N ∧ 1 ≤ to e ∧ to e ≤ N ∧ kd (fr e) ≠ 2 ∧ kd (fr e) ≠ 3 ∧ ev e < 2000 ∧ gu e < 16384 ∧ (gu e = 0 ∨ (1 ≤ gu e % 8 ∧ gu e % 8 ≤ 6))
def EdC (A : mwM) (k E : Nat) (fr to ev gu : Nat → Nat) : Prop := A k 8 = sI E ∧ ∀ e, 1 ≤ e → e ≤ E → A (k + 21) e = sI (fr e) ∧ A (k + 22) e = sI (to e) ∧ A (k + 23) e = sI (ev e) ∧ A (k + 24) e = sI (gu e)
def EdM (M : mwM) (q E : Nat) (fr to ev gu : Nat → Nat) : Prop := M q 12 = sI E ∧ ∀ e, 1 ≤ e → e ≤ E → M (q + 10) e = sI (fr e) ∧ M (q + 11) e = sI (to e) ∧ M (q + 12) e = sI (ev e) ∧ M (q + 13) e = sI (gu e)
/-- some, all of 1 .. n -/
def anyN (p : Nat → Bool) : Nat → Bool
  | 0 => false
  | n + 1 => anyN p n || p (n + 1)
def allN (p : Nat → Bool) : Nat → Bool
  | 0 => true
  | n + 1 => allN p n && p (n + 1)
theorem anyN_iff {p : Nat → Bool} : ∀ n, anyN p n = true ↔ ∃ j, 1 ≤ j ∧ j ≤ n ∧ p j = true := by
  intro n
  induction n with
  | zero => exact ⟨fun h => (by cases h), fun ⟨j, h1, h2, _⟩ => by omega⟩
  | succ n ih =>
    show (anyN p n || p (n + 1)) = true ↔ _
    rw [Bool.or_eq_true, ih]
    constructor
    · rintro (⟨j, h1, h2, h3⟩ | h)
      · exact ⟨j, h1, by omega, h3⟩
      · exact ⟨n + 1, by omega, by omega, h⟩
    · rintro ⟨j, h1, h2, h3⟩
      by_cases hj : j = n + 1
      · right; rw [← hj]; exact h3
      · left; exact ⟨j, h1, by omega, h3⟩
theorem allN_iff {p : Nat → Bool} : ∀ n, allN p n = true ↔ ∀ j, 1 ≤ j → j ≤ n → p j = true := by
  intro n
  induction n with
  | zero => exact ⟨fun _ j h1 h2 => by omega, fun _ => rfl⟩
  | succ n ih =>
    show (allN p n && p (n + 1)) = true ↔ _
    rw [Bool.and_eq_true, ih]
    constructor
    · rintro ⟨h1, h2⟩ j hj1 hj2
      by_cases hj : j = n + 1
      · rw [hj]; exact h2
      · exact h1 j hj1 (by omega)
    · intro h
      exact ⟨fun j h1 h2 => h j h1 (by omega), h (n + 1) (by omega) (by omega)⟩
theorem anyN_congr {p r : Nat → Bool} {n : Nat} (h : ∀ j, 1 ≤ j → j ≤ n → p j = r j) : anyN p n = anyN r n := by
  induction n with
  | zero => rfl
  | succ n ih =>
    show (anyN p n || p (n + 1)) = (anyN r n || r (n + 1))
    rw [ih (fun j h1 h2 => h j h1 (by omega)), h (n + 1) (by omega) (by omega)]
theorem allN_congr {p r : Nat → Bool} {n : Nat} (h : ∀ j, 1 ≤ j → j ≤ n → p j = r j) : allN p n = allN r n := by
  induction n with
  | zero => rfl
  | succ n ih =>
    show (allN p n && p (n + 1)) = (allN r n && r (n + 1))
    rw [ih (fun j h1 h2 => h j h1 (by omega)), h (n + 1) (by omega) (by omega)]
/-- which edges say where an edge comes from, and goes to -/
def sS (kd fr to : Nat → Nat) (e j : Nat) : Bool := if kd (fr e) = 5 then decide (to j = fr e) else decide (j = e)
def sT (kd fr to : Nat → Nat) (e j : Nat) : Bool := if kd (to e) = 4 then (decide (fr j = to e) && decide (kd (to j) < 4)) else decide (j = e)
theorem m_sS {fu : Nat} {M : mwM} {L : mwL} {q N E e j : Nat} {pa kd de fr to ev gu : Nat → Nat} (hT : Tr N pa kd de) (hM : TrM M q N pa kd de) (hE : Ed N E kd fr to ev gu) (hEM : EdM M q E fr to ev gu) (h1 : 1 ≤ e) (h2 : e ≤ E) (h3 : 1 ≤ j) (h4 : j ≤ E) : DX13_saysSource fu q (sI e) (sI j) M L = some (bI (sS kd fr to e j), M, L) := by
  obtain ⟨e1, e2, e3, e4, e5, e6, e7, e8, _⟩ := hE.2 e h1 h2
  obtain ⟨j1, j2, j3, j4, j5, j6, j7, j8, _⟩ := hE.2 j h3 h4
  have hE4 := hE.1
  have hN := hT.1
  have hk := (Tr_pa hT e2).2.2.2.1
  unfold DX13_saysSource fX13_saysSource_b48
  rw [mck_s (by omega) (by omega), sI_nn (by omega), (hEM.2 e h1 h2).1, mck_s (by omega) (by omega), sI_nn (by omega), (hM.2 _ e2).2.1, mck_s (by omega) (by omega), mck_s (by omega) (by omega), sI_nn (by omega), (hEM.2 j h3 h4).2.1]
  unfold sS
  by_cases hq : kd (fr e) = 5
  · rw [if_pos (by rw [hq]; rfl), if_pos hq]
    by_cases ht : to j = fr e
    · rw [if_pos (by rw [ht]), decide_eq_true ht]; rfl
    · rw [if_neg (by rw [sI_eq (by omega) (by omega)]; exact ht), decide_eq_false ht]; rfl
  · rw [if_neg (by rw [sI_eql (by omega) (by omega)]; exact hq), if_neg hq]
    by_cases ht : j = e
    · rw [if_pos (by rw [ht]), decide_eq_true ht]; rfl
    · rw [if_neg (by rw [sI_eq (by omega) (by omega)]; exact ht), decide_eq_false ht]; rfl
theorem m_sT {fu : Nat} {M : mwM} {L : mwL} {q N E e j : Nat} {pa kd de fr to ev gu : Nat → Nat} (hT : Tr N pa kd de) (hM : TrM M q N pa kd de) (hE : Ed N E kd fr to ev gu) (hEM : EdM M q E fr to ev gu) (h1 : 1 ≤ e) (h2 : e ≤ E) (h3 : 1 ≤ j) (h4 : j ≤ E) : DX13_saysTarget fu q (sI e) (sI j) M L = some (bI (sT kd fr to e j), M, L) := by
  obtain ⟨e1, e2, e3, e4, e5, e6, e7, e8, _⟩ := hE.2 e h1 h2
  obtain ⟨j1, j2, j3, j4, j5, j6, j7, j8, _⟩ := hE.2 j h3 h4
  have hE4 := hE.1
  have hN := hT.1
  have hk := (Tr_pa hT e4).2.2.2.1
  have hkj := (Tr_pa hT j4).2.2.2.1
  unfold DX13_saysTarget fX13_saysTarget_b60 fX13_saysTarget_b61 fX13_saysTarget_b25
  rw [mck_s (by omega) (by omega), sI_nn (by omega), (hEM.2 e h1 h2).2.1, mck_s (by omega) (by omega), sI_nn (by omega), (hM.2 _ e4).2.1, mck_s (by omega) (by omega), mck_s (by omega) (by omega), sI_nn (by omega), (hEM.2 j h3 h4).1, mck_s (by omega) (by omega), (hEM.2 j h3 h4).2.1, mck_s (by omega) (by omega), sI_nn (by omega), (hM.2 _ j4).2.1]
  unfold sT
  by_cases hq : kd (to e) = 4
  · rw [if_pos (by rw [hq]; rfl), if_pos hq]
    by_cases ht : fr j = to e
    · rw [if_pos (by rw [ht]), decide_eq_true ht]
      by_cases h5 : kd (to j) < 4
      · rw [if_neg (by rw [sI_lle (by omega) (by omega)]; omega), decide_eq_true h5]; rfl
      · rw [if_pos (by rw [sI_lle (by omega) (by omega)]; omega), decide_eq_false h5]; rfl
    · rw [if_neg (by rw [sI_eq (by omega) (by omega)]; exact ht), decide_eq_false ht]; rfl
  · rw [if_neg (by rw [sI_eql (by omega) (by omega)]; exact hq), if_neg hq]
    by_cases ht : j = e
    · rw [if_pos (by rw [ht]), decide_eq_true ht]; rfl
    · rw [if_neg (by rw [sI_eq (by omega) (by omega)]; exact ht), decide_eq_false ht]; rfl
/-- whether an edge's sources are all active -/
def wtB (kd fr to : Nat → Nat) (E : Nat) (ac : Nat → Bool) (e : Nat) : Bool := anyN (sS kd fr to e) E && allN (fun j => !sS kd fr to e j || ac (fr j)) E
theorem m_waitsFor {fu : Nat} {M : mwM} {L : mwL} {q N E e : Nat} {pa kd de fr to ev gu : Nat → Nat} {ac : Nat → Bool} (hf : 402 ≤ fu) (hT : Tr N pa kd de) (hM : TrM M q N pa kd de) (hE : Ed N E kd fr to ev gu) (hEM : EdM M q E fr to ev gu) (hac : ∀ s, 1 ≤ s → s ≤ N → M (q + 9) s = bI (ac s)) (h1 : 1 ≤ e) (h2 : e ≤ E) : DX13_waitsFor fu q (sI e) M L = some (bI (wtB kd fr to E ac e), M, L) := by
  have hE4 := hE.1
  have hN := hT.1
  have h := wq_for (body := fun r s => fX13_waitsFor_i7 fu q (sI e) r s.1 s.2.1 s.2.2.1 s.2.2.2.1 s.2.2.2.2) (Q := fun z => z = (bI (wtB kd fr to E ac e), M, L)) (fun i (_ : Unit) => (bI (anyN (sS kd fr to e) (i - 1)), bI (allN (fun j => !sS kd fr to e j || ac (fr j)) (i - 1)), sI i, M, L)) (fun i _ => 1 ≤ i) (E + 1) ?_ ?_ E 1 () fu (by omega) (by omega) (Nat.le_refl _)
  · obtain ⟨z, hz, rfl⟩ := h
    exact hz
  · intro i _ r hi hi1 ih
    obtain ⟨n, rfl⟩ : ∃ n, i = n + 1 := ⟨i - 1, by omega⟩
    have ih2 := ih () (by omega)
    obtain ⟨j1, j2, j3, j4, j5, j6, j7, j8, _⟩ := hE.2 (n + 1) (by omega) (by omega)
    have ea : anyN (sS kd fr to e) (n + 1) = (anyN (sS kd fr to e) n || sS kd fr to e (n + 1)) := rfl
    have el : allN (fun j => !sS kd fr to e j || ac (fr j)) (n + 1) = (allN (fun j => !sS kd fr to e j || ac (fr j)) n && (!sS kd fr to e (n + 1) || ac (fr (n + 1)))) := rfl
    rw [show n + 1 + 1 - 1 = n + 1 from rfl, ea, el] at ih2
    show wq (fX13_waitsFor_i7 fu q (sI e) r (bI (anyN (sS kd fr to e) n)) (bI (allN (fun j => !sS kd fr to e j || ac (fr j)) n)) (sI (n + 1)) M L) _
    unfold fX13_waitsFor_i7
    rw [hEM.1, if_neg (by rw [sI_lt (by omega) (by omega)]; omega)]
    generalize anyN (sS kd fr to e) n = p at *
    generalize allN (fun j => !sS kd fr to e j || ac (fr j)) n = a at *
    have hb35 : wq (fX13_waitsFor_b35 fu q (sI e) r (bI a) (sI (n + 1)) (bI (p || sS kd fr to e (n + 1))) M L) (fun z => z = (bI (wtB kd fr to E ac e), M, L)) := by
      unfold fX13_waitsFor_b35 fX13_waitsFor_b69 fX13_waitsFor_b65 fX13_waitsFor_b70
      simp only [mlet]
      rw [sI_1]
      cases a with
      | false =>
        rw [if_pos bI_f]
        exact ih2
      | true =>
        rw [if_neg (by decide), m_sS hT hM hE hEM h1 h2 (by omega) (by omega), mb3_s]
        cases hs : sS kd fr to e (n + 1) with
        | false =>
          rw [hs] at ih2
          rw [if_pos bI_f]
          exact ih2
        | true =>
          rw [hs] at ih2
          rw [if_neg (by decide), mck_s (by omega) (by omega), sI_nn (by omega), (hEM.2 (n + 1) (by omega) (by omega)).1, mck_s (by omega) (by omega), sI_nn (by omega), hac _ j1 j2]
          cases hc : ac (fr (n + 1)) with
          | false =>
            rw [hc] at ih2
            rw [if_pos bI_f]
            exact ih2
          | true =>
            rw [hc] at ih2
            rw [if_neg (by decide)]
            exact ih2
    cases p with
    | false =>
      rw [if_pos bI_f, m_sS hT hM hE hEM h1 h2 (by omega) (by omega), mb3_s]
      cases hs : sS kd fr to e (n + 1) with
      | false =>
        rw [hs] at hb35
        rw [if_pos bI_f]
        exact hb35
      | true =>
        rw [hs] at hb35
        rw [if_neg (by decide)]
        exact hb35
    | true =>
      rw [if_neg (by decide)]
      exact hb35
  · intro _ r _
    show wq (fX13_waitsFor_i7 fu q (sI e) r (bI (anyN (sS kd fr to e) E)) (bI (allN (fun j => !sS kd fr to e j || ac (fr j)) E)) (sI (E + 1)) M L) _
    unfold fX13_waitsFor_i7 fX13_waitsFor_b89 fX13_waitsFor_b90
    rw [hEM.1, if_pos (by rw [sI_lt (by omega) (by omega)]; omega)]
    unfold wtB
    cases anyN (sS kd fr to e) E with
    | false =>
      rw [if_pos bI_f]
      exact wq_some rfl
    | true =>
      rw [if_neg (by decide)]
      cases allN (fun j => !sS kd fr to e j || ac (fr j)) E with
      | false =>
        rw [if_pos bI_f]
        exact wq_some rfl
      | true =>
        rw [if_neg (by decide)]
        exact wq_some rfl
/-- the class: whether all that leads into a join is active -/
theorem c_isJoined {fu : Nat} {A : mwM} {L : mwL} {k N E g : Nat} {pa kd de fr to ev gu : Nat → Nat} {ac : Nat → Bool} (hf : 402 ≤ fu) (hT : Tr N pa kd de) (hE : Ed N E kd fr to ev gu) (hEC : EdC A k E fr to ev gu) (hac : ∀ s, 1 ≤ s → s ≤ N → A (k + 7) s = bI (ac s)) (hg : g ≤ N) : DX2_isJoined fu k (sI g) A L = some (bI (anyN (fun j => decide (to j = g)) E && allN (fun j => !decide (to j = g) || ac (fr j)) E), A, L) := by
  have hE4 := hE.1
  have hN := hT.1
  have h := wq_for (body := fun r s => fX2_isJoined_i4 fu k (sI g) r s.1 s.2.1 s.2.2.1 s.2.2.2) (Q := fun z => z = (bI (anyN (fun j => decide (to j = g)) E && allN (fun j => !decide (to j = g) || ac (fr j)) E), A, L)) (fun i (_ : Unit) => (bI (anyN (fun j => decide (to j = g)) (i - 1)), sI i, A, L)) (fun i _ => 1 ≤ i ∧ allN (fun j => !decide (to j = g) || ac (fr j)) (i - 1) = true) (E + 1) ?_ ?_ E 1 () fu (by omega) (by omega) ⟨Nat.le_refl _, rfl⟩
  · obtain ⟨z, hz, rfl⟩ := h
    exact hz
  · intro i _ r hi ⟨hi1, hal⟩ ih
    obtain ⟨n, rfl⟩ : ∃ n, i = n + 1 := ⟨i - 1, by omega⟩
    rw [show n + 1 - 1 = n from rfl] at hal
    obtain ⟨j1, j2, j3, j4, j5, j6, j7, j8, _⟩ := hE.2 (n + 1) (by omega) (by omega)
    have ea : anyN (fun j => decide (to j = g)) (n + 1) = (anyN (fun j => decide (to j = g)) n || decide (to (n + 1) = g)) := rfl
    have el : allN (fun j => !decide (to j = g) || ac (fr j)) (n + 1) = (allN (fun j => !decide (to j = g) || ac (fr j)) n && (!decide (to (n + 1) = g) || ac (fr (n + 1)))) := rfl
    have ih2 := ih ()
    rw [show n + 1 + 1 - 1 = n + 1 from rfl, ea, el, hal] at ih2
    show wq (fX2_isJoined_i4 fu k (sI g) r (bI (anyN (fun j => decide (to j = g)) n)) (sI (n + 1)) A L) _
    unfold fX2_isJoined_i4 fX2_isJoined_b46
    rw [hEC.1, if_neg (by rw [sI_lt (by omega) (by omega)]; omega), mck_s (by omega) (by omega), sI_nn (by omega), (hEC.2 (n + 1) (by omega) (by omega)).2.1]
    simp only [mlet]
    rw [sI_1]
    by_cases ht : to (n + 1) = g
    · rw [if_pos (by rw [ht]), mck_s (by omega) (by omega), (hEC.2 (n + 1) (by omega) (by omega)).1, mck_s (by omega) (by omega), sI_nn (by omega), hac _ j1 j2]
      cases hc : ac (fr (n + 1)) with
      | false =>
        rw [if_pos bI_f]
        refine wq_some ?_
        have : allN (fun j => !decide (to j = g) || ac (fr j)) E = false := by
          by_cases hx : allN (fun j => !decide (to j = g) || ac (fr j)) E = true
          · have := (allN_iff E).mp hx (n + 1) (by omega) (by omega)
            simp [ht, hc] at this
          · simpa using hx
        rw [this, Bool.and_false]
        rfl
      | true =>
        rw [if_neg (by decide)]
        have := ih2 ⟨by omega, by simp [hc]⟩
        rw [decide_eq_true ht, Bool.or_true] at this
        exact this
    · rw [if_neg (by rw [sI_eq (by omega) (by omega)]; exact ht)]
      have := ih2 ⟨by omega, by simp [ht]⟩
      rw [decide_eq_false ht, Bool.or_false] at this
      exact this
  · intro _ r ⟨_, hal⟩
    rw [show E + 1 - 1 = E from rfl] at hal
    show wq (fX2_isJoined_i4 fu k (sI g) r (bI (anyN (fun j => decide (to j = g)) E)) (sI (E + 1)) A L) _
    unfold fX2_isJoined_i4
    rw [hEC.1, if_pos (by rw [sI_lt (by omega) (by omega)]; omega), hal, Bool.and_true]
    exact wq_zz bI_z (wq_some rfl)
/-- whether an edge may go -/
def goB (kd fr to : Nat → Nat) (E : Nat) (ac : Nat → Bool) (e : Nat) : Bool := decide (kd (to e) ≠ 5) && (decide (kd (fr e) ≠ 4) && wtB kd fr to E ac e)
theorem wtB_own {kd fr to : Nat → Nat} {E e : Nat} {ac : Nat → Bool} (h1 : 1 ≤ e) (h2 : e ≤ E) (h5 : kd (fr e) ≠ 5) : wtB kd fr to E ac e = ac (fr e) := by
  unfold wtB
  have e1 : anyN (sS kd fr to e) E = true := by
    rw [anyN_iff]
    refine ⟨e, h1, h2, ?_⟩
    unfold sS
    rw [if_neg h5]
    simp
  rw [e1, Bool.true_and]
  cases hc : ac (fr e) with
  | true =>
    rw [allN_iff]
    intro j hj1 hj2
    unfold sS
    rw [if_neg h5]
    by_cases hj : j = e
    · rw [hj, hc]; simp
    · simp [hj]
  | false =>
    by_cases hx : allN (fun j => !sS kd fr to e j || ac (fr j)) E = true
    · have := (allN_iff E).mp hx e h1 h2
      unfold sS at this
      rw [if_neg h5] at this
      simp [hc] at this
    · simpa using hx
theorem wtB_join {kd fr to : Nat → Nat} {E e : Nat} {ac : Nat → Bool} (h5 : kd (fr e) = 5) : wtB kd fr to E ac e = (anyN (fun j => decide (to j = fr e)) E && allN (fun j => !decide (to j = fr e) || ac (fr j)) E) := by
  unfold wtB
  have e1 : sS kd fr to e = fun j => decide (to j = fr e) := by
    funext j
    unfold sS
    rw [if_pos h5]
  rw [e1]
theorem c_mayGo {fu : Nat} {A : mwM} {L : mwL} {k N E e : Nat} {pa kd de fr to ev gu : Nat → Nat} {ac : Nat → Bool} (hf : 402 ≤ fu) (hT : Tr N pa kd de) (hC : TrC A k N pa kd de) (hE : Ed N E kd fr to ev gu) (hEC : EdC A k E fr to ev gu) (hac : ∀ s, 1 ≤ s → s ≤ N → A (k + 7) s = bI (ac s)) (h1 : 1 ≤ e) (h2 : e ≤ E) : DX2_mayGo fu k (sI e) A L = some (bI (goB kd fr to E ac e), A, L) := by
  have hE4 := hE.1
  have hN := hT.1
  obtain ⟨e1, e2, e3, e4, e5, e6, e7, e8, _⟩ := hE.2 e h1 h2
  have hkt := (Tr_pa hT e4).2.2.2.1
  have hkf := (Tr_pa hT e2).2.2.2.1
  unfold DX2_mayGo fX2_mayGo_b40 fX2_mayGo_b79
  rw [mck_s (by omega) (by omega), sI_nn (by omega), (hEC.2 e h1 h2).1, (hEC.2 e h1 h2).2.1]
  simp only [mlet]
  rw [mck_s (by omega) (by omega), mck_s (by omega) (by omega), sI_nn (by omega), (hC.2 _ e4).2.1, mck_s (by omega) (by omega), sI_nn (by omega), (hC.2 _ e2).2.1, mck_s (by omega) (by omega), mck_s (by omega) (by omega), hac _ e1 e2]
  unfold goB
  by_cases q5 : kd (to e) = 5
  · rw [if_pos (by rw [q5]; rfl), q5]
    simp [bI_f]
  · rw [if_neg (by rw [sI_eql (by omega) (by omega)]; exact q5)]
    have t1 : decide (kd (to e) ≠ 5) = true := by simpa using q5
    rw [t1, Bool.true_and]
    by_cases q4 : kd (fr e) = 4
    · rw [if_pos (by rw [q4]; rfl), q4]
      simp [bI_f]
    · rw [if_neg (by rw [sI_eql (by omega) (by omega)]; exact q4)]
      have t2 : decide (kd (fr e) ≠ 4) = true := by simpa using q4
      rw [t2, Bool.true_and]
      by_cases q6 : kd (fr e) = 5
      · rw [if_pos (by rw [q6]; rfl), c_isJoined hf hT hE hEC hac e2, mb3_s, wtB_join q6]
        unfold mzz
        rw [if_pos bI_z]
      · rw [if_neg (by rw [sI_eql (by omega) (by omega)]; exact q6), wtB_own h1 h2 q6]
        cases ac (fr e) with
        | true => rfl
        | false => rfl
/-! guards -/
theorem m_note {fu : Nat} {M : mwM} {L : mwL} {q rw' : Nat} {a b : Int32} {c : Int64} (h : M q 31 = sI rw') (hr : rw' ≤ 500) : wq (DX13_note fu q a b c M L) (fun z => z.2 = L ∧ (∃ rw2, rw2 ≤ 500 ∧ z.1 q 31 = sI rw2) ∧ ∀ b y, ¬ (b = q ∧ y = 31) → b ≠ q + 22 → z.1 b y = M b y) := by
  unfold DX13_note
  rw [h]
  by_cases h5 : rw' = 500
  · rw [if_pos (by rw [h5]; rfl)]
    exact wq_some ⟨rfl, ⟨rw', hr, h⟩, fun _ _ _ _ => rfl⟩
  · have e31 : ∀ (X : mwM) (j : Nat) (v : Int32), mset X (q + 22) j v q 31 = X q 31 := fun X j v => mset_k (by omega)
    rw [if_neg (by rw [sI_eql (by omega) (by omega)]; exact h5)]
    simp (disch := omega) only [mlet, sI_lml, sI_1, sI_adl, e31, h, mck_s, sI_nn]
    refine wq_some ⟨rfl, ⟨rw' + 1, by omega, ?_⟩, ?_⟩
    · try dsimp only
      rw [mset_s]
    · intro b' y h1 h2
      try dsimp only
      rw [mset_n h1, mset_k h2, mset_k h2, mset_k h2]
/-- what a guard says: its operation, its first datum, its second -/
def gOp (g : Nat) : Nat := g % 8
def gA (g : Nat) : Nat := g / 8 % 32
def gB (g : Nat) : Nat := g / 256 % 32
def cmpB (op : Nat) (a b : Int64) : Bool := if op = 1 then decide (a = b) else if op = 2 then decide (a ≠ b) else if op = 3 then decide (a < b) else if op = 4 then decide (b ≤ a) else if op = 5 then decide (a / b ≠ 0) else decide (a - a / b * b = 0)
/-- by zero -/
def zrB (op : Nat) (b : Int64) : Bool := decide (5 ≤ op) && decide (b = 0)
theorem c_compare {fu k op : Nat} {A : mwM} {L : mwL} {a b : Int64} (h0 : 1 ≤ op) (ho : op ≤ 6) : DX2_compare fu k (sI op) a b A L = some (if zrB op b = true then (0, mset A k 15 (A k 15 + 1), L) else (bI (cmpB op a b), A, L)) := by
  unfold DX2_compare
  have go : (5 ≤ op → ¬ b = 0) → fX2_compare_b24 fu k (sI op) a b A L = some (bI (cmpB op a b), A, L) := by
    intro hb
    unfold fX2_compare_b24 fX2_compare_b72 fX2_compare_b85 fX2_compare_b98 fX2_compare_b111 fX2_compare_b126 fX2_compare_b141 cmpB
    simp only [mlet]
    by_cases h1 : op = 1
    · rw [if_pos (by rw [h1]; rfl), if_pos h1]
      by_cases hq : a = b
      · rw [if_pos ((lg_cmp_eq _ _).mpr hq), decide_eq_true hq]; rfl
      · rw [if_neg (fun z => hq ((lg_cmp_eq _ _).mp z)), decide_eq_false hq]; rfl
    · rw [if_neg (by rw [sI_eql (by omega) (by omega)]; exact h1), if_neg h1]
      by_cases h2 : op = 2
      · rw [if_pos (by rw [h2]; rfl), if_pos h2]
        by_cases hq : a = b
        · rw [if_pos ((lg_cmp_eq _ _).mpr hq), decide_eq_false (fun z => z hq)]; rfl
        · rw [if_neg (fun z => hq ((lg_cmp_eq _ _).mp z)), decide_eq_true hq]; rfl
      · rw [if_neg (by rw [sI_eql (by omega) (by omega)]; exact h2), if_neg h2]
        by_cases h3 : op = 3
        · rw [if_pos (by rw [h3]; rfl), if_pos h3]
          by_cases hq : b ≤ a
          · rw [if_pos ((lg_cmp_ge _ _).mpr hq), decide_eq_false (Int64.not_lt.mpr hq)]; rfl
          · rw [if_neg (fun z => hq ((lg_cmp_ge _ _).mp z)), decide_eq_true (Int64.not_le.mp hq)]; rfl
        · rw [if_neg (by rw [sI_eql (by omega) (by omega)]; exact h3), if_neg h3]
          by_cases h4 : op = 4
          · rw [if_pos (by rw [h4]; rfl), if_pos h4]
            by_cases hq : b ≤ a
            · rw [if_neg (fun z => Int64.not_lt.mpr hq ((lg_cmp_lt _ _).mp z)), decide_eq_true hq]; rfl
            · rw [if_pos ((lg_cmp_lt _ _).mpr (Int64.not_le.mp hq)), decide_eq_false hq]; rfl
          · rw [if_neg (by rw [sI_eql (by omega) (by omega)]; exact h4), if_neg h4]
            have hz := hb (by omega)
            by_cases h5 : op = 5
            · rw [if_pos (by rw [h5]; rfl), if_pos h5]
              unfold mnzL
              rw [if_neg hz]
              by_cases hq : a / b = 0
              · rw [if_pos ((lg_cmp_eq _ _).mpr hq), decide_eq_false (fun z => z hq)]; rfl
              · rw [if_neg (fun z => hq ((lg_cmp_eq _ _).mp z)), decide_eq_true hq]; rfl
            · rw [if_neg (by rw [sI_eql (by omega) (by omega)]; exact h5), if_neg h5]
              unfold mnzL
              rw [if_neg hz]
              by_cases hq : a - a / b * b = 0
              · rw [if_pos ((lg_cmp_eq _ _).mpr hq), decide_eq_true hq]; rfl
              · rw [if_neg (fun z => hq ((lg_cmp_eq _ _).mp z)), decide_eq_false hq]; rfl
  unfold zrB
  by_cases h5 : op < 5
  · rw [if_pos (by rw [sI_ltl (by omega) (by omega)]; exact h5), go (fun z => by omega), decide_eq_false (show ¬ 5 ≤ op by omega)]
    rfl
  · rw [if_neg (by rw [sI_ltl (by omega) (by omega)]; exact h5), decide_eq_true (show 5 ≤ op by omega)]
    by_cases hz : b = 0
    · rw [if_pos ((lg_cmp_eq _ _).mpr hz), decide_eq_true hz]
      rfl
    · rw [if_neg (fun z => hz ((lg_cmp_eq _ _).mp z)), go (fun _ => hz), decide_eq_false hz]
      rfl
theorem m_ask {fu op : Nat} {M : mwM} {L : mwL} {a b : Int64} (h0 : 1 ≤ op) (ho : op ≤ 6) (hz : zrB op b = false) : DX13_ask fu (sI op) a b M L = some ((if cmpB op a b = true then 1 else 0), M, L) := by
  have hb : 5 ≤ op → ¬ b = 0 := by
    intro h5 hb0
    unfold zrB at hz
    rw [decide_eq_true h5, decide_eq_true hb0] at hz
    cases hz
  unfold DX13_ask fX13_ask_b16 fX13_ask_b33 fX13_ask_b50 fX13_ask_b67 fX13_ask_b86 fX13_ask_b104 cmpB
  by_cases h1 : op = 1
  · rw [if_pos (by rw [h1]; rfl), if_pos h1]
    by_cases hq : a = b
    · rw [if_pos ((lg_cmp_eq _ _).mpr hq), decide_eq_true hq]; rfl
    · rw [if_neg (fun z => hq ((lg_cmp_eq _ _).mp z)), decide_eq_false hq]; rfl
  · rw [if_neg (by rw [sI_eql (by omega) (by omega)]; exact h1), if_neg h1]
    by_cases h2 : op = 2
    · rw [if_pos (by rw [h2]; rfl), if_pos h2]
      by_cases hq : a = b
      · rw [if_pos ((lg_cmp_eq _ _).mpr hq), decide_eq_false (fun z => z hq)]; rfl
      · rw [if_neg (fun z => hq ((lg_cmp_eq _ _).mp z)), decide_eq_true hq]; rfl
    · rw [if_neg (by rw [sI_eql (by omega) (by omega)]; exact h2), if_neg h2]
      by_cases h3 : op = 3
      · rw [if_pos (by rw [h3]; rfl), if_pos h3]
        by_cases hq : b ≤ a
        · rw [if_pos ((lg_cmp_ge _ _).mpr hq), decide_eq_false (Int64.not_lt.mpr hq)]; rfl
        · rw [if_neg (fun z => hq ((lg_cmp_ge _ _).mp z)), decide_eq_true (Int64.not_le.mp hq)]; rfl
      · rw [if_neg (by rw [sI_eql (by omega) (by omega)]; exact h3), if_neg h3]
        by_cases h4 : op = 4
        · rw [if_pos (by rw [h4]; rfl), if_pos h4]
          by_cases hq : b ≤ a
          · rw [if_pos ((lg_cmp_ge _ _).mpr hq), decide_eq_true hq]; rfl
          · rw [if_neg (fun z => hq ((lg_cmp_ge _ _).mp z)), decide_eq_false hq]; rfl
        · rw [if_neg (by rw [sI_eql (by omega) (by omega)]; exact h4), if_neg h4]
          have hz2 := hb (by omega)
          by_cases h5 : op = 5
          · rw [if_pos (by rw [h5]; rfl), if_pos h5]
            unfold mnzL
            rw [if_neg hz2]
            by_cases hq : a / b = 0
            · rw [if_pos ((lg_cmp_eq _ _).mpr hq), decide_eq_false (fun z => z hq)]; rfl
            · rw [if_neg (fun z => hq ((lg_cmp_eq _ _).mp z)), decide_eq_true hq]; rfl
          · rw [if_neg (by rw [sI_eql (by omega) (by omega)]; exact h5), if_neg h5]
            unfold mnzL
            rw [if_neg hz2]
            by_cases hq : a - a / b * b = 0
            · rw [if_pos ((lg_cmp_eq _ _).mpr hq), decide_eq_true hq]; rfl
            · rw [if_neg (fun z => hq ((lg_cmp_eq _ _).mp z)), decide_eq_false hq]; rfl
/-- the second value of a guard -/
def gV (D : Nat → Int64) (g : Nat) : Int64 := if g < 8192 then D (gB g) else sL (gB g)
def hdB (D : Nat → Int64) (g : Nat) : Bool := if g = 0 then true else (!zrB (gOp g) (gV D g) && cmpB (gOp g) (D (gA g)) (gV D g))
def hzB (D : Nat → Int64) (g : Nat) : Bool := if g = 0 then false else zrB (gOp g) (gV D g)
/-- what was seen of an edge: taken, held, not held -/
def sn (u h f : Bool) : Nat := (if u = true then 1 else 0) + (if h = true then 2 else 0) + (if f = true then 4 else 0)
theorem sn_h (u h f : Bool) : sI (sn u h f) ||| 2 = sI (sn u true f) := by cases u <;> cases h <;> cases f <;> decide
theorem sn_f (u h f : Bool) : sI (sn u h f) ||| 4 = sI (sn u h true) := by cases u <;> cases h <;> cases f <;> decide
theorem sn_u (u h f : Bool) : sI (sn u h f) ||| 1 = sI (sn true h f) := by cases u <;> cases h <;> cases f <;> decide
theorem sn_lt (u h f : Bool) : sn u h f < 8 := by cases u <;> cases h <;> cases f <;> decide
/-- the class: whether an edge's guard holds -/
theorem c_holds {fu k g e : Nat} {A : mwM} {L : mwL} {u h f : Bool} (he : e ≤ 400) (hg : g < 16384) (hg2 : g = 0 ∨ (1 ≤ g % 8 ∧ g % 8 ≤ 6)) (h24 : A (k + 24) e = sI g) (h26 : A (k + 26) e = sI (sn u h f)) : wq (DX2_holds fu k (sI e) A L) (fun z => z.1 = bI (hdB (L (k + 34)) g) ∧ z.2.2 = L ∧ z.2.1 (k + 26) e = sI (sn u (h || (decide (g ≠ 0) && hdB (L (k + 34)) g)) (f || (decide (g ≠ 0) && !hdB (L (k + 34)) g))) ∧ z.2.1 k 15 = (if hzB (L (k + 34)) g = true then A k 15 + 1 else A k 15) ∧ ∀ b y, ¬ (b = k + 26 ∧ y = e) → ¬ (b = k ∧ y = 15) → z.2.1 b y = A b y) := by
  unfold DX2_holds
  rw [mck_s (by omega) (by omega), sI_nn (by omega), h24]
  simp only [mlet]
  by_cases h0 : g = 0
  · rw [if_pos (by rw [h0]; rfl)]
    have e1 : hdB (L (k + 34)) g = true := by unfold hdB; rw [if_pos h0]
    have e2 : hzB (L (k + 34)) g = false := by unfold hzB; rw [if_pos h0]
    rw [e1, e2]
    refine wq_some ⟨rfl, rfl, ?_, rfl, fun _ _ _ _ => rfl⟩
    try dsimp only
    rw [h26, h0]
    simp
  · rw [if_neg (by rw [sI_eql (by omega) (by decide)]; exact h0)]
    obtain ⟨o1, o2⟩ : 1 ≤ g % 8 ∧ g % 8 ≤ 6 := by
      rcases hg2 with q | q
      · exact absurd q h0
      · exact q
    have d8 : sI g / 8 = sI (g / 8) := sI_div (b := 8) (by omega) (by omega)
    have d256 : sI g / 256 = sI (g / 256) := sI_div (b := 256) (by omega) (by omega)
    have m8 : sI g - sI g / 8 * 8 = sI (g % 8) := sI_mod (b := 8) (by omega) (by omega)
    have m32 : sI (g / 8) - sI (g / 8) / 32 * 32 = sI (g / 8 % 32) := sI_mod (b := 32) (by omega) (by omega)
    have m32b : sI (g / 256) - sI (g / 256) / 32 * 32 = sI (g / 256 % 32) := sI_mod (b := 32) (by omega) (by omega)
    rw [m8, d8, d256, m32, m32b, mck_s (by omega) (by omega), mck_s (by omega) (by omega), sI_nn (by omega), sI_nn (by omega), sI_L (by omega)]
    have hV : ∀ (P : Option (Int32 × mwM × mwL) → Prop), P (fX2_holds_b59 fu k (sI e) (sI (g % 8)) (L (k + 34) (g / 8 % 32)) (gV (L (k + 34)) g) A L) → P (if sI g < 8192 then fX2_holds_b59 fu k (sI e) (sI (g % 8)) (L (k + 34) (g / 8 % 32)) (L (k + 34) (g / 256 % 32)) A L else fX2_holds_b59 fu k (sI e) (sI (g % 8)) (L (k + 34) (g / 8 % 32)) (sL (g / 256 % 32)) A L) := by
      intro P hP
      unfold gV at hP
      by_cases hl : g < 8192
      · rw [if_pos (by rw [sI_ltl (by omega) (by omega)]; exact hl)]
        rw [if_pos hl] at hP
        exact hP
      · rw [if_neg (by rw [sI_ltl (by omega) (by omega)]; exact hl)]
        rw [if_neg hl] at hP
        exact hP
    refine hV (fun o => wq o _) ?_
    have eH : hdB (L (k + 34)) g = (!zrB (g % 8) (gV (L (k + 34)) g) && cmpB (g % 8) (L (k + 34) (g / 8 % 32)) (gV (L (k + 34)) g)) := by
      unfold hdB
      rw [if_neg h0]
      rfl
    have eZ : hzB (L (k + 34)) g = zrB (g % 8) (gV (L (k + 34)) g) := by
      unfold hzB
      rw [if_neg h0]
      rfl
    have dn : decide (g ≠ 0) = true := decide_eq_true h0
    rw [eH, eZ, dn, Bool.true_and, Bool.true_and]
    generalize gV (L (k + 34)) g = V
    unfold fX2_holds_b59
    rw [c_compare o1 o2]
    cases hz : zrB (g % 8) V with
    | true =>
      rw [if_pos rfl, mb3_s, mck_s (by omega) (by omega), if_pos rfl]
      unfold fX2_holds_b83
      rw [mck_s (by omega) (by omega), sI_nn (by omega), mset_k (show k + 26 ≠ k by omega), h26]
      simp only [mlet]
      refine wq_zz (Or.inl rfl) (wq_some ⟨rfl, rfl, ?_, ?_, ?_⟩)
      all_goals (try dsimp only)
      · rw [mset_s, sn_f]; simp
      · rw [mset_k (by omega), mset_s, if_pos trivial]
      · intro b y q1 q2
        rw [mset_n q1, mset_n q2]
    | false =>
      rw [if_neg (by decide), mb3_s, mck_s (by omega) (by omega)]
      unfold fX2_holds_b83
      cases hc : cmpB (g % 8) (L (k + 34) (g / 8 % 32)) V with
      | true =>
        rw [if_neg (by decide), mck_s (by omega) (by omega), sI_nn (by omega), h26]
        simp only [mlet]
        refine wq_zz (Or.inr rfl) (wq_some ⟨rfl, rfl, ?_, ?_, ?_⟩)
        all_goals (try dsimp only)
        · rw [mset_s, sn_h]; simp
        · rw [mset_k (by omega), if_neg (by decide)]
        · intro b y q1 q2
          rw [mset_n q1]
      | false =>
        rw [if_pos bI_f, mck_s (by omega) (by omega), sI_nn (by omega), h26]
        simp only [mlet]
        refine wq_zz (Or.inl rfl) (wq_some ⟨rfl, rfl, ?_, ?_, ?_⟩)
        all_goals (try dsimp only)
        · rw [mset_s, sn_f]; simp
        · rw [mset_k (by omega), if_neg (by decide)]
        · intro b y q1 q2
          rw [mset_n q1]
/-- the reference: whether an edge's guard holds -/
theorem m_holds13 {fu q g e rw' : Nat} {M : mwM} {L : mwL} {h f : Bool} (he : e ≤ 400) (hg : g < 16384) (hg2 : g = 0 ∨ (1 ≤ g % 8 ∧ g % 8 ≤ 6)) (h13 : M (q + 13) e = sI g) (h15 : M (q + 15) e = bI h) (h16 : M (q + 16) e = bI f) (h31 : M q 31 = sI rw') (hrw : rw' ≤ 500) : wq (DX13_holds fu q (sI e) M L) (fun z => z.1 = bI (hdB (L (q + 21)) g) ∧ z.2.2 = L ∧ z.2.1 (q + 15) e = bI (h || (decide (g ≠ 0) && hdB (L (q + 21)) g)) ∧ z.2.1 (q + 16) e = bI (f || (decide (g ≠ 0) && !hdB (L (q + 21)) g)) ∧ z.2.1 q 30 = (if hzB (L (q + 21)) g = true then M q 30 + 1 else M q 30) ∧ (∃ rw2, rw2 ≤ 500 ∧ z.2.1 q 31 = sI rw2) ∧ ∀ b y, ¬ (y = e ∧ (b = q + 15 ∨ b = q + 16)) → ¬ (b = q ∧ (y = 30 ∨ y = 31)) → b ≠ q + 22 → z.2.1 b y = M b y) := by
  unfold DX13_holds
  rw [mck_s (by omega) (by omega), sI_nn (by omega), h13]
  simp only [mlet]
  by_cases h0 : g = 0
  · rw [if_pos (by rw [h0]; rfl)]
    have e1 : hdB (L (q + 21)) g = true := by unfold hdB; rw [if_pos h0]
    have e2 : hzB (L (q + 21)) g = false := by unfold hzB; rw [if_pos h0]
    rw [e1, e2]
    refine wq_some ⟨rfl, rfl, ?_, ?_, rfl, ⟨rw', hrw, h31⟩, fun _ _ _ _ _ => rfl⟩
    all_goals (try dsimp only)
    · rw [h15, h0]; simp
    · rw [h16, h0]; simp
  · rw [if_neg (by rw [sI_eql (by omega) (by decide)]; exact h0)]
    obtain ⟨o1, o2⟩ : 1 ≤ g % 8 ∧ g % 8 ≤ 6 := by
      rcases hg2 with z | z
      · exact absurd z h0
      · exact z
    have s8 : (sI g >>> ((8 : Int32) &&& 31)) &&& 31 = sI (g / 256 % 32) := by
      rw [show (8 : Int32) &&& 31 = sI 8 from by decide, sI_shr (by omega) (by omega)]
      exact sI_and (m := 5)
    have s3 : (sI g >>> ((3 : Int32) &&& 31)) &&& 31 = sI (g / 8 % 32) := by
      rw [show (3 : Int32) &&& 31 = sI 3 from by decide, sI_shr (by omega) (by omega)]
      exact sI_and (m := 5)
    have a7 : sI g &&& 7 = sI (g % 8) := sI_and (m := 3)
    rw [s8, mck_s (by omega) (by omega), sI_nn (by omega), sI_L (by omega)]
    have hV : ∀ (P : Option (Int32 × mwM × mwL) → Prop), P (fX13_holds_b39 fu q (sI e) (sI g) (gV (L (q + 21)) g) M L) → P (if sI g ≤ 8191 then fX13_holds_b39 fu q (sI e) (sI g) (L (q + 21) (g / 256 % 32)) M L else fX13_holds_b39 fu q (sI e) (sI g) (sL (g / 256 % 32)) M L) := by
      intro P hP
      unfold gV at hP
      by_cases hl : g < 8192
      · rw [if_pos (by rw [sI_lel (by omega) (by omega)]; show g ≤ 8191; omega)]
        rw [if_pos hl] at hP
        exact hP
      · rw [if_neg (by rw [sI_lel (by omega) (by omega)]; show ¬ g ≤ 8191; omega)]
        rw [if_neg hl] at hP
        exact hP
    refine hV (fun o => wq o _) ?_
    have eH : hdB (L (q + 21)) g = (!zrB (g % 8) (gV (L (q + 21)) g) && cmpB (g % 8) (L (q + 21) (g / 8 % 32)) (gV (L (q + 21)) g)) := by
      unfold hdB
      rw [if_neg h0]
      rfl
    have eZ : hzB (L (q + 21)) g = zrB (g % 8) (gV (L (q + 21)) g) := by
      unfold hzB
      rw [if_neg h0]
      rfl
    have dn : decide (g ≠ 0) = true := decide_eq_true h0
    rw [eH, eZ, dn, Bool.true_and, Bool.true_and]
    generalize gV (L (q + 21)) g = V
    have b1 : vp_nar .boolean (1 : Int32) = bI true := by decide
    unfold fX13_holds_b39
    rw [a7]
    -- behind the question whether it is by zero
    cases hz : zrB (g % 8) V with
    | true =>
      have hz' := hz
      unfold zrB at hz'
      rw [Bool.and_eq_true, decide_eq_true_eq, decide_eq_true_eq] at hz'
      rw [if_neg (by rw [sI_lel (by omega) (by omega)]; show ¬ g % 8 ≤ 4; omega), if_pos ((lg_cmp_eq _ _).mpr hz'.2)]
      unfold fX13_holds_b61
      rw [if_neg (by decide)]
      simp only [mlet]
      refine wq_b2 (m_note (rw' := rw') (by rw [mset_j (by decide)]; exact h31) hrw) ?_
      rintro M1 L1 ⟨x1, ⟨rw2, x2, x3⟩, x4⟩
      dsimp only at x1 x2 x3 x4
      subst x1
      unfold fX13_holds_b85 fX13_holds_b119 fX13_holds_b120 fX13_holds_b144
      rw [if_neg (by decide), if_pos rfl, mck_s (by omega) (by omega), sI_nn (by omega), b1]
      simp only [mlet]
      refine wq_zz (Or.inl rfl) (wq_some ⟨rfl, rfl, ?_, ?_, ?_, ⟨rw2, x2, ?_⟩, ?_⟩)
      all_goals (try dsimp only)
      · rw [mset_k (by omega), x4 _ _ (by omega) (by omega), mset_k (by omega), h15]; simp
      · rw [mset_s]; simp
      · rw [mset_k (by omega), x4 _ _ (by omega) (by omega), mset_s, if_pos trivial]
      · rw [mset_k (by omega)]; exact x3
      · intro b y w1 w2 w3
        rw [mset_n (by omega), x4 _ _ (by omega) (by omega), mset_n (by omega)]
    | false =>
      have go : wq (fX13_holds_b60 fu q (sI e) (sI g) V M L) (fun z => z.1 = bI (!false && cmpB (g % 8) (L (q + 21) (g / 8 % 32)) V) ∧ z.2.2 = L ∧ z.2.1 (q + 15) e = bI (h || (!false && cmpB (g % 8) (L (q + 21) (g / 8 % 32)) V)) ∧ z.2.1 (q + 16) e = bI (f || !(!false && cmpB (g % 8) (L (q + 21) (g / 8 % 32)) V)) ∧ z.2.1 q 30 = (if false = true then M q 30 + 1 else M q 30) ∧ (∃ rw2, rw2 ≤ 500 ∧ z.2.1 q 31 = sI rw2) ∧ ∀ b y, ¬ (y = e ∧ (b = q + 15 ∨ b = q + 16)) → ¬ (b = q ∧ (y = 30 ∨ y = 31)) → b ≠ q + 22 → z.2.1 b y = M b y) := by
        unfold fX13_holds_b60 fX13_holds_b61 fX13_holds_b85
        rw [if_pos rfl, if_pos rfl, s3, a7, mck_s (by omega) (by omega), sI_nn (by omega), m_ask o1 o2 hz, mb3_s]
        unfold fX13_holds_b119 fX13_holds_b120 fX13_holds_b144
        cases hc : cmpB (g % 8) (L (q + 21) (g / 8 % 32)) V with
        | true =>
          rw [if_pos rfl, if_pos (by decide), if_neg (by decide), mck_s (by omega) (by omega), sI_nn (by omega), b1]
          simp only [mlet]
          refine wq_zz (Or.inr rfl) (wq_some ⟨rfl, rfl, ?_, ?_, ?_, ⟨rw', hrw, ?_⟩, ?_⟩)
          all_goals (try dsimp only)
          · rw [mset_s]; simp
          · rw [mset_k (by omega), h16]; simp
          · rw [mset_k (by omega)]; rfl
          · rw [mset_k (by omega)]; exact h31
          · intro b y w1 w2 w3
            rw [mset_n (by omega)]
        | false =>
          rw [if_neg (by decide), if_pos rfl, mck_s (by omega) (by omega), sI_nn (by omega), b1]
          simp only [mlet]
          refine wq_zz (Or.inl rfl) (wq_some ⟨rfl, rfl, ?_, ?_, ?_, ⟨rw', hrw, ?_⟩, ?_⟩)
          all_goals (try dsimp only)
          · rw [mset_k (by omega), h15]; simp
          · rw [mset_s]; simp
          · rw [mset_k (by omega)]; rfl
          · rw [mset_k (by omega)]; exact h31
          · intro b y w1 w2 w3
            rw [mset_n (by omega)]
      by_cases h4 : g % 8 ≤ 4
      · rw [if_pos (by rw [sI_lel (by omega) (by omega)]; exact h4)]
        exact go
      · rw [if_neg (by rw [sI_lel (by omega) (by omega)]; exact h4), if_neg (by
          intro z
          have hv := (lg_cmp_eq _ _).mp z
          unfold zrB at hz
          rw [decide_eq_true (show 5 ≤ g % 8 by omega), decide_eq_true hv] at hz
          cases hz)]
        exact go
/-! the domain of an edge -/
def goodB (pa kd de fr to : Nat → Nat) (E d e : Nat) : Bool := allN (fun j => (!sS kd fr to e j || insB pa de d (fr j)) && (!sT kd fr to e j || insB pa de d (to j))) E
def bst (pa kd de fr to : Nat → Nat) (E e : Nat) : Nat → Nat
  | 0 => 0
  | i + 1 => if kd (i + 1) = 0 ∧ de (bst pa kd de fr to E e i) < de (i + 1) ∧ goodB pa kd de fr to E (i + 1) e = true then i + 1 else bst pa kd de fr to E e i
theorem bst_le {pa kd de fr to : Nat → Nat} {E e : Nat} : ∀ i, bst pa kd de fr to E e i ≤ i := by
  intro i
  induction i with
  | zero => exact Nat.le_refl _
  | succ i ih =>
    unfold bst
    split
    · exact Nat.le_refl _
    · exact Nat.le_succ_of_le ih
theorem bst_spec {N : Nat} {pa kd de fr to : Nat → Nat} {E e : Nat} (hT : Tr N pa kd de) : ∀ i, i ≤ N → (bst pa kd de fr to E e i = 0 ∨ (kd (bst pa kd de fr to E e i) = 0 ∧ goodB pa kd de fr to E (bst pa kd de fr to E e i) e = true)) ∧ ∀ d, 1 ≤ d → d ≤ i → kd d = 0 → goodB pa kd de fr to E d e = true → de d ≤ de (bst pa kd de fr to E e i) := by
  intro i
  induction i with
  | zero => intro _; exact ⟨Or.inl rfl, fun d h1 h2 => by omega⟩
  | succ i ih =>
    intro hi
    obtain ⟨i1, i2⟩ := ih (by omega)
    have e1 : bst pa kd de fr to E e (i + 1) = if kd (i + 1) = 0 ∧ de (bst pa kd de fr to E e i) < de (i + 1) ∧ goodB pa kd de fr to E (i + 1) e = true then i + 1 else bst pa kd de fr to E e i := rfl
    by_cases hc : kd (i + 1) = 0 ∧ de (bst pa kd de fr to E e i) < de (i + 1) ∧ goodB pa kd de fr to E (i + 1) e = true
    · rw [e1, if_pos hc]
      refine ⟨Or.inr ⟨hc.1, hc.2.2⟩, ?_⟩
      intro d h1 h2 h3 h4
      by_cases hd : d = i + 1
      · rw [hd]; exact Nat.le_refl _
      · have := i2 d h1 (by omega) h3 h4
        have := hc.2.1
        omega
    · rw [e1, if_neg hc]
      refine ⟨i1, ?_⟩
      intro d h1 h2 h3 h4
      by_cases hd : d = i + 1
      · subst hd
        rcases Nat.lt_or_ge (de (bst pa kd de fr to E e i)) (de (i + 1)) with q | q
        · exact absurd ⟨h3, q, h4⟩ hc
        · exact q
      · exact i2 d h1 (by omega) h3 h4
/-- two states around one, equally deep, are one -/
theorem ins_uniq {N : Nat} {pa kd de : Nat → Nat} (h : Tr N pa kd de) {d d' : Nat} (hdd : de d = de d') : ∀ s, s ≤ N → insB pa de d s = true → insB pa de d' s = true → d = d' := by
  intro s
  induction s using Nat.strongRecOn with
  | _ s ih =>
    intro hs h1 h2
    rcases Nat.eq_zero_or_pos s with rfl | q
    · rw [ins_0 h] at h1; cases h1
    · obtain ⟨w1, w2, w3, w4, w5⟩ := h.2.2.2.2 s q hs
      rw [ins_S h q hs, Bool.or_eq_true, decide_eq_true_eq] at h1 h2
      rcases h1 with h1 | h1
      · rcases h2 with h2 | h2
        · rw [← h1, ← h2]
        · have := ins_lt h (pa s) (by omega) h2
          rw [h1] at this
          omega
      · rcases h2 with h2 | h2
        · have := ins_lt h (pa s) (by omega) h1
          rw [h2] at this
          omega
        · exact ih (pa s) w1 (by omega) h1 h2
/-- the reference: the domain of an edge -/
theorem m_domain {fu : Nat} {M : mwM} {L : mwL} {q N E e : Nat} {pa kd de fr to ev gu : Nat → Nat} (hf : 402 ≤ fu) (hT : Tr N pa kd de) (hM : TrM M q N pa kd de) (hE : Ed N E kd fr to ev gu) (hEM : EdM M q E fr to ev gu) (h1 : 1 ≤ e) (h2 : e ≤ E) : DX13_domain fu q (sI e) M L = some (sI (bst pa kd de fr to E e N), M, L) := by
  have hE4 := hE.1
  have hN := hT.1
  -- the edges, from one on
  have inner : ∀ (d b : Nat) (r4 : Int32 × Int32 × mwM × mwL → Option (Int32 × mwM × mwL)) (Q : Int32 × mwM × mwL → Prop), d ≤ N → (∀ g, g = goodB pa kd de fr to E d e → wq (fX13_domain_b119 fu q (sI e) r4 (sI b) (sI d) (bI g) M L) Q) → wq (fX13_domain_b41 fu q (sI e) r4 (sI b) (sI d) 1 M L) Q := by
    intro d b r4 Q hd hQ
    unfold fX13_domain_b41
    refine wq_for (body := fun r s => fX13_domain_i46 fu q (sI e) r4 r s.1 s.2.1 s.2.2.1 s.2.2.2.1 s.2.2.2.2.1 s.2.2.2.2.2) (fun i (_ : Unit) => (sI b, sI d, bI (allN (fun j => (!sS kd fr to e j || insB pa de d (fr j)) && (!sT kd fr to e j || insB pa de d (to j))) (i - 1)), sI i, M, L)) (fun i _ => 1 ≤ i) (E + 1) ?_ ?_ E 1 () fu (by omega) (by omega) (Nat.le_refl _)
    · intro i _ r hi hi1 ih
      obtain ⟨n, rfl⟩ : ∃ n, i = n + 1 := ⟨i - 1, by omega⟩
      obtain ⟨j1, j2, j3, j4, j5, j6, j7, j8, _⟩ := hE.2 (n + 1) (by omega) (by omega)
      have ih2 := ih () (by omega)
      have el : allN (fun j => (!sS kd fr to e j || insB pa de d (fr j)) && (!sT kd fr to e j || insB pa de d (to j))) (n + 1) = (allN (fun j => (!sS kd fr to e j || insB pa de d (fr j)) && (!sT kd fr to e j || insB pa de d (to j))) n && ((!sS kd fr to e (n + 1) || insB pa de d (fr (n + 1))) && (!sT kd fr to e (n + 1) || insB pa de d (to (n + 1))))) := rfl
      rw [show n + 1 + 1 - 1 = n + 1 from rfl, el] at ih2
      show wq (fX13_domain_i46 fu q (sI e) r4 r (sI b) (sI d) (bI (allN (fun j => (!sS kd fr to e j || insB pa de d (fr j)) && (!sT kd fr to e j || insB pa de d (to j))) n)) (sI (n + 1)) M L) _
      unfold fX13_domain_i46
      rw [hEM.1, if_neg (by rw [sI_lt (by omega) (by omega)]; omega)]
      cases ha : allN (fun j => (!sS kd fr to e j || insB pa de d (fr j)) && (!sT kd fr to e j || insB pa de d (to j))) n with
      | false =>
        rw [if_pos bI_f]
        refine hQ false ?_
        unfold goodB
        by_cases hx : allN (fun j => (!sS kd fr to e j || insB pa de d (fr j)) && (!sT kd fr to e j || insB pa de d (to j))) E = true
        · exfalso
          have : allN (fun j => (!sS kd fr to e j || insB pa de d (fr j)) && (!sT kd fr to e j || insB pa de d (to j))) n = true := by
            rw [allN_iff]
            intro j hj1 hj2
            exact (allN_iff E).mp hx j hj1 (by omega)
          rw [ha] at this
          cases this
        · simp only [Bool.not_eq_true] at hx
          exact hx.symm
      | true =>
        rw [ha, Bool.true_and] at ih2
        rw [if_neg (by decide), m_sS hT hM hE hEM h1 h2 (by omega) (by omega), mb3_s]
        have hb84 : ∀ g : Bool, (!sS kd fr to e (n + 1) || insB pa de d (fr (n + 1))) = g → wq (fX13_domain_b84 fu q (sI e) r4 r (sI b) (sI d) (bI g) (sI (n + 1)) M L) Q := by
          intro g hg
          rw [hg] at ih2
          unfold fX13_domain_b84 fX13_domain_b113
          simp only [mlet]
          rw [sI_1]
          cases g with
          | false =>
            rw [if_pos bI_f]
            exact ih2
          | true =>
            rw [if_neg (by decide), m_sT hT hM hE hEM h1 h2 (by omega) (by omega), mb3_s]
            cases hs : sT kd fr to e (n + 1) with
            | false =>
              rw [hs] at ih2
              rw [if_pos bI_f]
              exact ih2
            | true =>
              rw [hs] at ih2
              rw [if_neg (by decide), mck_s (by omega) (by omega), sI_nn (by omega), (hEM.2 (n + 1) (by omega) (by omega)).2.1, m_inside (by omega) hT hM j4 hd, mb3_s]
              exact ih2
        cases hs : sS kd fr to e (n + 1) with
        | false =>
          rw [if_pos bI_f]
          exact hb84 true (by rw [hs]; rfl)
        | true =>
          rw [if_neg (by decide), mck_s (by omega) (by omega), sI_nn (by omega), (hEM.2 (n + 1) (by omega) (by omega)).1, m_inside (by omega) hT hM j2 hd, mb3_s]
          exact hb84 _ (by rw [hs]; rfl)
    · intro _ r _
      show wq (fX13_domain_i46 fu q (sI e) r4 r (sI b) (sI d) (bI (goodB pa kd de fr to E d e)) (sI (E + 1)) M L) _
      unfold fX13_domain_i46
      rw [hEM.1, if_pos (by rw [sI_lt (by omega) (by omega)]; omega)]
      exact hQ _ rfl
  unfold DX13_domain
  have h := wq_for (body := fun r s => fX13_domain_i4 fu q (sI e) r s.1 s.2.1 s.2.2.1 s.2.2.2) (Q := fun z => z = (sI (bst pa kd de fr to E e N), M, L)) (fun i (_ : Unit) => (sI (bst pa kd de fr to E e (i - 1)), sI i, M, L)) (fun i _ => 1 ≤ i) (N + 1) ?_ ?_ N 1 () fu (by omega) (by omega) (Nat.le_refl _)
  · obtain ⟨z, hz, rfl⟩ := h
    exact hz
  · intro i _ r hi hi1 ih
    obtain ⟨n, rfl⟩ : ∃ n, i = n + 1 := ⟨i - 1, by omega⟩
    have ih2 := ih () (by omega)
    have hp := Tr_pa hT (s := n + 1) (by omega)
    have hbl := bst_le (pa := pa) (kd := kd) (de := de) (fr := fr) (to := to) (E := E) (e := e) n
    have hpb := Tr_pa hT (s := bst pa kd de fr to E e n) (by omega)
    have e1 : bst pa kd de fr to E e (n + 1) = if kd (n + 1) = 0 ∧ de (bst pa kd de fr to E e n) < de (n + 1) ∧ goodB pa kd de fr to E (n + 1) e = true then n + 1 else bst pa kd de fr to E e n := rfl
    rw [show n + 1 + 1 - 1 = n + 1 from rfl, e1] at ih2
    show wq (fX13_domain_i4 fu q (sI e) r (sI (bst pa kd de fr to E e n)) (sI (n + 1)) M L) _
    generalize bst pa kd de fr to E e n = b at *
    have hno : ∀ (hx : ¬ (kd (n + 1) = 0 ∧ de b < de (n + 1) ∧ goodB pa kd de fr to E (n + 1) e = true)), wq (fX13_domain_b119 fu q (sI e) r (sI b) (sI (n + 1)) 0 M L) (fun z => z = (sI (bst pa kd de fr to E e N), M, L)) := by
      intro hx
      rw [if_neg hx] at ih2
      unfold fX13_domain_b119 fX13_domain_b129
      rw [if_pos rfl]
      simp only [mlet]
      rw [sI_1]
      exact ih2
    have hb40 : ∀ (hx : ¬ (kd (n + 1) = 0 ∧ de b < de (n + 1) ∧ goodB pa kd de fr to E (n + 1) e = true)), wq (fX13_domain_b40 fu q (sI e) r (sI b) (sI (n + 1)) M L) (fun z => z = (sI (bst pa kd de fr to E e N), M, L)) := by
      intro hx
      unfold fX13_domain_b40 fX13_domain_b41
      obtain ⟨g, hg⟩ : ∃ g, fu = g + 1 := ⟨fu - 1, by omega⟩
      have : wq (fX13_domain_h46 fu q (sI e) r (g + 1) (sI b, sI (n + 1), 0, 1, M, L)) (fun z => z = (sI (bst pa kd de fr to E e N), M, L)) := by
        unfold fX13_domain_h46
        rw [mloop_S]
        show wq (fX13_domain_i46 fu q (sI e) r _ (sI b) (sI (n + 1)) 0 1 M L) _
        unfold fX13_domain_i46
        exact wq_if (fun _ => hno hx) (fun _ => by rw [if_pos rfl]; exact hno hx)
      rw [← hg] at this
      exact this
    unfold fX13_domain_i4
    rw [hM.1, if_neg (by rw [sI_lt (by omega) (by omega)]; omega), mck_s (by omega) (by omega), sI_nn (by omega), (hM.2 (n + 1) (by omega)).2.1]
    by_cases hk : kd (n + 1) = 0
    · rw [if_pos (by rw [hk]; rfl), mck_s (by omega) (by omega), mck_s (by omega) (by omega), sI_nn (by omega), (hM.2 (n + 1) (by omega)).2.2, (hM.2 b (by omega)).2.2]
      by_cases hd : de b < de (n + 1)
      · rw [if_neg (by rw [sI_le (by omega) (by omega)]; omega)]
        refine inner (n + 1) b r _ (by omega) ?_
        intro g hg
        cases g with
        | false => exact hno (fun z => by rw [← hg] at z; cases z.2.2)
        | true =>
          rw [if_pos ⟨hk, hd, hg.symm⟩] at ih2
          unfold fX13_domain_b119 fX13_domain_b129
          rw [if_neg (by decide)]
          simp only [mlet]
          rw [sI_1]
          exact ih2
      · rw [if_pos (by rw [sI_le (by omega) (by omega)]; omega)]
        exact hb40 (fun z => hd z.2.1)
    · rw [if_neg (by rw [sI_eql (by omega) (by decide)]; exact hk)]
      exact hb40 (fun z => hk z.1)
  · intro _ r _
    show wq (fX13_domain_i4 fu q (sI e) r (sI (bst pa kd de fr to E e N)) (sI (N + 1)) M L) _
    unfold fX13_domain_i4
    rw [hM.1, if_pos (by rw [sI_lt (by omega) (by omega)]; omega)]
    exact wq_some rfl
/-! the class: what lies around an edge -/
theorem c_isAim {fu : Nat} {A : mwM} {L : mwL} {k N s : Nat} {pa kd de : Nat → Nat} (hT : Tr N pa kd de) (hC : TrC A k N pa kd de) (hs : s ≤ N) : DX2_isAim fu k (sI s) A L = some (bI (decide (kd s < 4)), A, L) := by
  have hp := Tr_pa hT hs
  unfold DX2_isAim fX2_isAim_b28 fX2_isAim_b29
  rw [mck_s (by omega) (by omega), sI_nn (by omega), (hC.2 s hs).2.1, mck_s (by omega) (by omega)]
  by_cases h4 : kd s = 4
  · rw [if_pos (by rw [h4]; rfl), decide_eq_false (by omega)]; rfl
  · rw [if_neg (by rw [sI_eql (by omega) (by omega)]; exact h4)]
    by_cases h5 : kd s = 5
    · rw [if_pos (by rw [h5]; rfl), decide_eq_false (by omega)]; rfl
    · rw [if_neg (by rw [sI_eql (by omega) (by omega)]; exact h5), decide_eq_true (by omega)]; rfl
def stB (pa kd de fr to : Nat → Nat) (d e j : Nat) : Bool := (!(decide (kd (fr e) = 5) && decide (to j = fr e)) || insB pa de d (fr j)) && (!(decide (kd (to e) = 4) && (decide (fr j = to e) && decide (kd (to j) < 4))) || insB pa de d (to j))
def ac0 (pa kd de fr to : Nat → Nat) (d e : Nat) : Bool := (decide (kd (fr e) = 5) || insB pa de d (fr e)) && (decide (kd (to e) = 4) || insB pa de d (to e))
theorem good_eq {pa kd de fr to : Nat → Nat} {E d e : Nat} (h1 : 1 ≤ e) (h2 : e ≤ E) : (ac0 pa kd de fr to d e && allN (stB pa kd de fr to d e) E) = goodB pa kd de fr to E d e := by
  rw [Bool.eq_iff_iff]
  unfold goodB ac0
  rw [Bool.and_eq_true, Bool.and_eq_true, allN_iff, allN_iff]
  constructor
  · rintro ⟨⟨a1, a2⟩, a3⟩ j hj1 hj2
    have h3 := a3 j hj1 hj2
    unfold stB at h3
    rw [Bool.and_eq_true] at h3
    rw [Bool.and_eq_true]
    refine ⟨?_, ?_⟩
    · unfold sS
      by_cases h5 : kd (fr e) = 5
      · rw [if_pos h5]
        have := h3.1
        rw [decide_eq_true h5, Bool.true_and] at this
        exact this
      · rw [if_neg h5]
        rw [decide_eq_false h5, Bool.false_or] at a1
        by_cases hj : j = e
        · rw [hj, a1]; simp
        · simp [hj]
    · unfold sT
      by_cases h4 : kd (to e) = 4
      · rw [if_pos h4]
        have := h3.2
        rw [decide_eq_true h4, Bool.true_and] at this
        exact this
      · rw [if_neg h4]
        rw [decide_eq_false h4, Bool.false_or] at a2
        by_cases hj : j = e
        · rw [hj, a2]; simp
        · simp [hj]
  · intro a
    have he := a e h1 h2
    rw [Bool.and_eq_true] at he
    refine ⟨⟨?_, ?_⟩, ?_⟩
    · by_cases h5 : kd (fr e) = 5
      · simp [h5]
      · have := he.1
        unfold sS at this
        rw [if_neg h5] at this
        simp at this
        simp [this]
    · by_cases h4 : kd (to e) = 4
      · simp [h4]
      · have := he.2
        unfold sT at this
        rw [if_neg h4] at this
        simp at this
        simp [this]
    · intro j hj1 hj2
      have hj := a j hj1 hj2
      rw [Bool.and_eq_true] at hj
      unfold stB
      rw [Bool.and_eq_true]
      refine ⟨?_, ?_⟩
      · by_cases h5 : kd (fr e) = 5
        · have := hj.1
          unfold sS at this
          rw [if_pos h5] at this
          rw [decide_eq_true h5, Bool.true_and]
          exact this
        · simp [h5]
      · by_cases h4 : kd (to e) = 4
        · have := hj.2
          unfold sT at this
          rw [if_pos h4] at this
          rw [decide_eq_true h4, Bool.true_and]
          exact this
        · simp [h4]
theorem c_isAround {fu : Nat} {A : mwM} {L : mwL} {k N E d e : Nat} {pa kd de fr to ev gu : Nat → Nat} (hf : 402 ≤ fu) (hT : Tr N pa kd de) (hC : TrC A k N pa kd de) (hE : Ed N E kd fr to ev gu) (hEC : EdC A k E fr to ev gu) (hd : d ≤ N) (h1 : 1 ≤ e) (h2 : e ≤ E) : DX2_isAround fu k (sI d) (sI e) A L = some (bI (decide (kd d = 0) && goodB pa kd de fr to E d e), A, L) := by
  have hE4 := hE.1
  have hN := hT.1
  have hp := Tr_pa hT hd
  obtain ⟨e1, e2, e3, e4, e5, e6, e7, e8, _⟩ := hE.2 e h1 h2
  have hkf := (Tr_pa hT e2).2.2.2.1
  have hkt := (Tr_pa hT e4).2.2.2.1
  unfold DX2_isAround
  rw [mck_s (by omega) (by omega), sI_nn (by omega), (hC.2 d hd).2.1]
  by_cases hk : kd d = 0
  · rw [if_pos (by rw [hk]; rfl), decide_eq_true hk, Bool.true_and, mck_s (by omega) (by omega), sI_nn (by omega), (hEC.2 e h1 h2).1, (hEC.2 e h1 h2).2.1]
    simp only [mlet]
    rw [mck_s (by omega) (by omega), mck_s (by omega) (by omega), sI_nn (by omega), (hC.2 _ e2).2.1, ← good_eq (pa := pa) (de := de) (d := d) h1 h2]
    -- the loop over the edges
    have loop : ∀ g : Bool, ac0 pa kd de fr to d e = g → fX2_isAround_b81 fu k (sI d) (sI e) (sI (fr e)) (sI (to e)) (bI g) A L = some (bI (ac0 pa kd de fr to d e && allN (stB pa kd de fr to d e) E), A, L) := by
      intro g hg
      unfold fX2_isAround_b81
      have h := wq_for (body := fun r s => fX2_isAround_i86 fu k (sI d) (sI e) r s.1 s.2.1 s.2.2.1 s.2.2.2.1 s.2.2.2.2.1 s.2.2.2.2.2) (Q := fun z => z = (bI (ac0 pa kd de fr to d e && allN (stB pa kd de fr to d e) E), A, L)) (fun i (_ : Unit) => (sI (fr e), sI (to e), bI (ac0 pa kd de fr to d e && allN (stB pa kd de fr to d e) (i - 1)), sI i, A, L)) (fun i _ => 1 ≤ i) (E + 1) ?_ ?_ E 1 () fu (by omega) (by omega) (Nat.le_refl _)
      · obtain ⟨z, hz, rfl⟩ := h
        rw [show (ac0 pa kd de fr to d e && allN (stB pa kd de fr to d e) (1 - 1)) = g from by rw [hg]; show (g && true) = g; simp] at hz
        exact hz
      · intro i _ r hi hi1 ih
        obtain ⟨n, rfl⟩ : ∃ n, i = n + 1 := ⟨i - 1, by omega⟩
        obtain ⟨j1, j2, j3, j4, j5, j6, j7, j8, _⟩ := hE.2 (n + 1) (by omega) (by omega)
        have ih2 := ih () (by omega)
        have el : allN (stB pa kd de fr to d e) (n + 1) = (allN (stB pa kd de fr to d e) n && stB pa kd de fr to d e (n + 1)) := rfl
        rw [show n + 1 + 1 - 1 = n + 1 from rfl, el, ← Bool.and_assoc] at ih2
        show wq (fX2_isAround_i86 fu k (sI d) (sI e) r (sI (fr e)) (sI (to e)) (bI (ac0 pa kd de fr to d e && allN (stB pa kd de fr to d e) n)) (sI (n + 1)) A L) _
        unfold fX2_isAround_i86
        rw [hEC.1, if_neg (by rw [sI_lt (by omega) (by omega)]; omega)]
        cases ha : (ac0 pa kd de fr to d e && allN (stB pa kd de fr to d e) n) with
        | false =>
          rw [if_pos bI_f]
          unfold fX2_isAround_b209
          refine wq_zz (Or.inl rfl) (wq_some ?_)
          have : (ac0 pa kd de fr to d e && allN (stB pa kd de fr to d e) E) = false := by
            by_cases hx : (ac0 pa kd de fr to d e && allN (stB pa kd de fr to d e) E) = true
            · rw [Bool.and_eq_true] at hx
              have : allN (stB pa kd de fr to d e) n = true := by
                rw [allN_iff]
                intro j q1 q2
                exact (allN_iff E).mp hx.2 j q1 (by omega)
              rw [hx.1, this] at ha
              cases ha
            · simpa using hx
          rw [this]
        | true =>
          rw [ha, Bool.true_and] at ih2
          rw [show stB pa kd de fr to d e (n + 1) = ((!(decide (kd (fr e) = 5) && decide (to (n + 1) = fr e)) || insB pa de d (fr (n + 1))) && (!(decide (kd (to e) = 4) && (decide (fr (n + 1) = to e) && decide (kd (to (n + 1)) < 4))) || insB pa de d (to (n + 1)))) from rfl] at ih2
          rw [if_neg (by decide), mck_s (by omega) (by omega), sI_nn (by omega), (hC.2 _ e2).2.1]
          have b141 : ∀ g2 : Bool, (!(decide (kd (fr e) = 5) && decide (to (n + 1) = fr e)) || insB pa de d (fr (n + 1))) = g2 → wq (fX2_isAround_b141 fu k (sI d) (sI e) r (sI (fr e)) (sI (to e)) (bI g2) (sI (n + 1)) A L) (fun z => z = (bI (ac0 pa kd de fr to d e && allN (stB pa kd de fr to d e) E), A, L)) := by
            intro g2 hg2
            rw [hg2] at ih2
            unfold fX2_isAround_b141 fX2_isAround_b203
            simp only [mlet]
            rw [mck_s (by omega) (by omega), sI_nn (by omega), (hC.2 _ e4).2.1, sI_1]
            by_cases h4 : kd (to e) = 4
            · rw [if_pos (by rw [h4]; rfl), mck_s (by omega) (by omega), sI_nn (by omega), (hEC.2 (n + 1) (by omega) (by omega)).1]
              rw [decide_eq_true h4, Bool.true_and] at ih2
              by_cases hfj : fr (n + 1) = to e
              · rw [if_pos (by rw [hfj]), mck_s (by omega) (by omega), (hEC.2 (n + 1) (by omega) (by omega)).2.1, c_isAim hT hC j4, mb3_s]
                rw [decide_eq_true hfj, Bool.true_and] at ih2
                by_cases hkj : kd (to (n + 1)) < 4
                · rw [decide_eq_true hkj] at ih2 ⊢
                  rw [if_neg (by decide), mck_s (by omega) (by omega), (hEC.2 (n + 1) (by omega) (by omega)).2.1, c_isIn (by omega) hT hC j4 hd, mb3_s]
                  have hand : ∀ x y : Bool, bI x &&& bI y = bI (x && y) := by decide
                  rw [hand]
                  rw [Bool.not_true, Bool.false_or] at ih2
                  exact ih2
                · rw [decide_eq_false hkj] at ih2 ⊢
                  rw [if_pos bI_f]
                  rw [Bool.not_false, Bool.true_or, Bool.and_true] at ih2
                  exact ih2
              · rw [if_neg (by rw [sI_eq (by omega) (by omega)]; exact hfj)]
                rw [decide_eq_false hfj, Bool.false_and, Bool.not_false, Bool.true_or, Bool.and_true] at ih2
                exact ih2
            · rw [if_neg (by rw [sI_eql (by omega) (by omega)]; exact h4)]
              rw [decide_eq_false h4, Bool.false_and, Bool.not_false, Bool.true_or, Bool.and_true] at ih2
              exact ih2
          by_cases h5 : kd (fr e) = 5
          · rw [if_pos (by rw [h5]; rfl), mck_s (by omega) (by omega), sI_nn (by omega), (hEC.2 (n + 1) (by omega) (by omega)).2.1]
            by_cases htj : to (n + 1) = fr e
            · rw [if_pos (by rw [htj]), mck_s (by omega) (by omega), (hEC.2 (n + 1) (by omega) (by omega)).1, c_isIn (by omega) hT hC j2 hd, mb3_s]
              exact b141 _ (by rw [decide_eq_true h5, decide_eq_true htj]; rfl)
            · rw [if_neg (by rw [sI_eq (by omega) (by omega)]; exact htj)]
              exact b141 true (by rw [decide_eq_false htj]; simp)
          · rw [if_neg (by rw [sI_eql (by omega) (by omega)]; exact h5)]
            exact b141 true (by rw [decide_eq_false h5]; simp)
      · intro _ r _
        show wq (fX2_isAround_i86 fu k (sI d) (sI e) r (sI (fr e)) (sI (to e)) (bI (ac0 pa kd de fr to d e && allN (stB pa kd de fr to d e) E)) (sI (E + 1)) A L) _
        unfold fX2_isAround_i86 fX2_isAround_b209
        rw [hEC.1, if_pos (by rw [sI_lt (by omega) (by omega)]; omega)]
        exact wq_zz bI_z (wq_some rfl)
    have b53 : (decide (kd (fr e) = 5) || insB pa de d (fr e)) = true → fX2_isAround_b53 fu k (sI d) (sI e) (sI (fr e)) (sI (to e)) A L = some (bI (ac0 pa kd de fr to d e && allN (stB pa kd de fr to d e) E), A, L) := by
      intro hs
      unfold fX2_isAround_b53 fX2_isAround_b76 fX2_isAround_b80
      rw [mck_s (by omega) (by omega), sI_nn (by omega), (hC.2 _ e4).2.1]
      by_cases h4 : kd (to e) = 4
      · rw [if_pos (by rw [h4]; rfl)]
        exact loop true (by unfold ac0; rw [hs, decide_eq_true h4]; rfl)
      · rw [if_neg (by rw [sI_eql (by omega) (by omega)]; exact h4), c_isIn (by omega) hT hC e4 hd, mb3_s]
        cases hi : insB pa de d (to e) with
        | false =>
          rw [if_pos bI_f]
          exact loop false (by unfold ac0; rw [hs, decide_eq_false h4, hi]; rfl)
        | true =>
          rw [if_neg (by decide)]
          exact loop true (by unfold ac0; rw [hs, decide_eq_false h4, hi]; rfl)
    by_cases h5 : kd (fr e) = 5
    · rw [if_pos (by rw [h5]; rfl)]
      exact b53 (by rw [decide_eq_true h5]; rfl)
    · rw [if_neg (by rw [sI_eql (by omega) (by omega)]; exact h5), c_isIn (by omega) hT hC e2 hd, mb3_s]
      cases hi : insB pa de d (fr e) with
      | false =>
        rw [if_pos bI_f]
        unfold fX2_isAround_b80
        exact loop false (by unfold ac0; rw [decide_eq_false h5, hi]; rfl)
      | true =>
        rw [if_neg (by decide)]
        exact b53 (by rw [decide_eq_false h5, hi]; rfl)
  · rw [if_neg (by rw [sI_eql (by omega) (by decide)]; exact hk), decide_eq_false hk]
    rfl
/-- up the tree to what lies around -/
def clB (pa : Nat → Nat) (p : Nat → Bool) : Nat → Nat → Nat
  | 0, d => d
  | f + 1, d => if d = 0 then 0 else if p d = true then d else clB pa p f (pa d)
theorem cl_spec {N : Nat} {pa kd de : Nat → Nat} (h : Tr N pa kd de) {p : Nat → Bool} : ∀ n d, de d = n → d ≤ N → clB pa p n d ≤ N ∧ (clB pa p n d = 0 ∨ p (clB pa p n d) = true) ∧ ∀ x, 1 ≤ x → x ≤ N → (x = d ∨ insB pa de x d = true) → p x = true → de x ≤ de (clB pa p n d) := by
  intro n
  induction n with
  | zero =>
    intro d hn hd
    have h0 : d = 0 := by
      rcases Nat.eq_zero_or_pos d with q | q
      · exact q
      · have := (h.2.2.2.2 d q hd).2.1
        omega
    subst h0
    refine ⟨hd, Or.inl rfl, ?_⟩
    intro x hx1 hx2 hx3 _
    rcases hx3 with q | q
    · omega
    · rw [ins_0 h] at q; cases q
  | succ n ih =>
    intro d hn hd
    have h1 : 1 ≤ d := by
      rcases Nat.eq_zero_or_pos d with q | q
      · rw [q, h.2.2.2.1] at hn; omega
      · exact q
    obtain ⟨w1, w2, w3, w4, w5⟩ := h.2.2.2.2 d h1 hd
    show (if d = 0 then 0 else if p d = true then d else clB pa p n (pa d)) ≤ N ∧ ((if d = 0 then 0 else if p d = true then d else clB pa p n (pa d)) = 0 ∨ p (if d = 0 then 0 else if p d = true then d else clB pa p n (pa d)) = true) ∧ ∀ x, 1 ≤ x → x ≤ N → (x = d ∨ insB pa de x d = true) → p x = true → de x ≤ de (if d = 0 then 0 else if p d = true then d else clB pa p n (pa d))
    rw [if_neg (by omega)]
    by_cases hp : p d = true
    · rw [if_pos hp]
      refine ⟨hd, Or.inr hp, ?_⟩
      intro x hx1 hx2 hx3 _
      rcases hx3 with q | q
      · rw [q]; exact Nat.le_refl _
      · have := ins_lt h d hd q
        omega
    · rw [if_neg hp]
      obtain ⟨i1, i2, i3⟩ := ih (pa d) (by omega) (by omega)
      refine ⟨i1, i2, ?_⟩
      intro x hx1 hx2 hx3 hx4
      refine i3 x hx1 hx2 ?_ hx4
      rcases hx3 with q | q
      · rw [q] at hx4; exact absurd hx4 hp
      · rw [ins_S h h1 hd, Bool.or_eq_true, decide_eq_true_eq] at q
        rcases q with q | q
        · exact Or.inl q.symm
        · exact Or.inr q
/-- climbing from a source's parent finds the domain -/
theorem cl_bst {N E e j : Nat} {pa kd de fr to ev gu : Nat → Nat} (h : Tr N pa kd de) (hE : Ed N E kd fr to ev gu) (hj1 : 1 ≤ j) (hj2 : j ≤ E) (hj : sS kd fr to e j = true) : clB pa (fun d => decide (kd d = 0) && goodB pa kd de fr to E d e) (de (pa (fr j))) (pa (fr j)) = bst pa kd de fr to E e N := by
  obtain ⟨j1, j2, _⟩ := hE.2 j hj1 hj2
  have hp := Tr_pa h j2
  obtain ⟨s1, s2, s3⟩ := cl_spec h (p := fun d => decide (kd d = 0) && goodB pa kd de fr to E d e) (de (pa (fr j))) (pa (fr j)) rfl hp.1
  obtain ⟨b1, b2⟩ := bst_spec (fr := fr) (to := to) (E := E) (e := e) h N (Nat.le_refl _)
  have bl := bst_le (pa := pa) (kd := kd) (de := de) (fr := fr) (to := to) (E := E) (e := e) N
  -- what is good lies around the source
  have hins : ∀ d, goodB pa kd de fr to E d e = true → insB pa de d (fr j) = true := by
    intro d hd
    unfold goodB at hd
    have := (allN_iff E).mp hd j hj1 hj2
    rw [Bool.and_eq_true, hj] at this
    simpa using this.1
  have hch : ∀ d, goodB pa kd de fr to E d e = true → (d = pa (fr j) ∨ insB pa de d (pa (fr j)) = true) := by
    intro d hd
    have := hins d hd
    rw [ins_S h j1 j2, Bool.or_eq_true, decide_eq_true_eq] at this
    rcases this with q | q
    · exact Or.inl q.symm
    · exact Or.inr q
  generalize clB pa (fun d => decide (kd d = 0) && goodB pa kd de fr to E d e) (de (pa (fr j))) (pa (fr j)) = D at *
  generalize bst pa kd de fr to E e N = B at *
  have hpos : ∀ x, 1 ≤ x → x ≤ N → 1 ≤ de x := by
    intro x q1 q2
    have := (h.2.2.2.2 x q1 q2).2.1
    omega
  have h0 := h.2.2.2.1
  rcases Nat.eq_zero_or_pos B with hB | hB
  · rcases Nat.eq_zero_or_pos D with hD | hD
    · rw [hB, hD]
    · exfalso
      rcases s2 with q | q
      · omega
      · simp only [Bool.and_eq_true, decide_eq_true_eq] at q
        have := b2 D hD s1 q.1 q.2
        rw [hB, h0] at this
        have := hpos D hD s1
        omega
  · rcases b1 with q | ⟨q1, q2⟩
    · omega
    · have hDB := s3 B hB bl (hch B q2) (by simp [q1, q2])
      have hBp := hpos B hB bl
      rcases s2 with z | z
      · rw [z, h0] at hDB; omega
      · simp only [Bool.and_eq_true, decide_eq_true_eq] at z
        have hD : 1 ≤ D := by
          rcases Nat.eq_zero_or_pos D with y | y
          · rw [y, h0] at hDB; omega
          · exact y
        have hBD := b2 D hD s1 z.1 z.2
        exact ins_uniq h (by omega) (fr j) j2 (hins D z.2) (hins B q2)
/-! the reference: what waits, what is left, children -/
theorem m_findExits {fu : Nat} {M : mwM} {L : mwL} {q N d : Nat} {pa kd de : Nat → Nat} {ac : Nat → Bool} (hf : 202 ≤ fu) (hT : Tr N pa kd de) (hM : TrM M q N pa kd de) (hA : ∀ s, 1 ≤ s → s ≤ N → M (q + 9) s = bI (ac s)) (hd : d ≤ N) : wq (DX13_findExits fu q (sI d) M L) (fun z => z.2 = L ∧ (∀ s, 1 ≤ s → s ≤ N → z.1 (q + 26) s = bI (ac s && insB pa de d s)) ∧ ∀ b y, b ≠ q + 26 → z.1 b y = M b y) := by
  have hN := hT.1
  unfold DX13_findExits
  refine wq_for (body := fun r s => fX13_findExits_i2 fu q (sI d) r s.1 s.2.1 s.2.2) (fun i (a : mwM) => (sI i, a, L)) (fun i a => 1 ≤ i ∧ (∀ s, 1 ≤ s → s < i → a (q + 26) s = bI (ac s && insB pa de d s)) ∧ ∀ b y, b ≠ q + 26 → a b y = M b y) (N + 1) ?_ ?_ N 1 _ fu (by omega) (by omega) ⟨Nat.le_refl _, fun s a b => by omega, fun _ _ _ => rfl⟩
  · intro i a r hi ⟨h1i, p1, p2⟩ ih
    show wq (fX13_findExits_i2 fu q (sI d) r (sI i) a L) _
    have e1 : a q 2 = sI N := (p2 q 2 (by omega)).trans hM.1
    have e2 : a (q + 9) i = bI (ac i) := (p2 (q + 9) i (by omega)).trans (hA i (by omega) (by omega))
    have e3 := m_inside (fu := fu) (L := L) (by omega) hT (TrM_f hM (p2 q 2 (by omega)) (fun b s h1 h2 => p2 b s (by omega))) (show i ≤ N by omega) hd
    unfold fX13_findExits_i2 fX13_findExits_b37 fX13_findExits_b38
    simp (disch := omega) only [e1, e2, e3, mck_s, sI_nn, nn_s, sI_lt, sI_le, sI_eq, sI_ltl, sI_lel, sI_eql, sI_llt, sI_lle, sI_1, bI_0, bI_1, bI_n, mlet, mb3_s, mb2_s]
    rw [if_neg (by omega)]
    have go : ∀ v, v = bI (ac i && insB pa de d i) → wq (r (sI (i + 1), mset a (q + 26) i (vp_nar .boolean v), L)) (fun z => z.2 = L ∧ (∀ s, 1 ≤ s → s ≤ N → z.1 (q + 26) s = bI (ac s && insB pa de d s)) ∧ ∀ b y, b ≠ q + 26 → z.1 b y = M b y) := by
      intro v hv
      refine ih _ ⟨by omega, ?_, ?_⟩
      · intro s h1 hs
        by_cases hsi : s = i
        · rw [hsi, mset_s, hv, bI_n]
        · rw [mset_j hsi]; exact p1 s h1 (by omega)
      · intro b y hb
        rw [mset_k hb]; exact p2 b y hb
    cases h1 : ac i <;> cases h2 : insB pa de d i <;> simp only [h1, h2, Bool.false_eq_true, reduceIte, if_true, if_false, Bool.true_eq_false] <;> exact go _ (by rw [h1, h2]; rfl)
  · intro a r ⟨_, p1, p2⟩
    show wq (fX13_findExits_i2 fu q (sI d) r (sI (N + 1)) a L) _
    have e1 : a q 2 = sI N := (p2 q 2 (by omega)).trans hM.1
    unfold fX13_findExits_i2
    simp (disch := omega) only [e1, mck_s, sI_nn, nn_s, sI_lt, sI_le, sI_eq, sI_ltl, sI_lel, sI_eql, sI_llt, sI_lle, sI_1, bI_0, bI_1, bI_n, mlet, mb3_s, mb2_s]
    rw [if_pos (by omega)]
    exact wq_some ⟨rfl, fun s h1 hs => p1 s h1 (by omega), p2⟩
/-- the first child -/
def chP (pa kd : Nat → Nat) (o : Nat → Bool) (s c : Nat) : Bool := decide (pa c = s) && decide (kd c ≤ 1) && o c
def fstN (p : Nat → Bool) : Nat → Nat → Nat
  | 0, _ => 0
  | m + 1, i => if p i = true then i else fstN p m (i + 1)
def chF (pa kd : Nat → Nat) (N : Nat) (o : Nat → Bool) (s : Nat) : Nat := fstN (chP pa kd o s) N 1
theorem m_mark {fu : Nat} {M : mwM} {L : mwL} {q N s : Nat} {pa kd de : Nat → Nat} (hT : Tr N pa kd de) (hM : TrM M q N pa kd de) (hs : s ≤ N) : DX13_mark fu q (sI s) M L = some (bI (decide (2 ≤ kd s)), M, L) := by
  have hp := Tr_pa hT hs
  have e1 := (hM.2 s hs).2.1
  unfold DX13_mark fX13_mark_b15
  simp (disch := omega) only [e1, mck_s, sI_nn, nn_s, sI_lt, sI_le, sI_eq, sI_ltl, sI_lel, sI_eql, sI_llt, sI_lle, sI_1, bI_0, bI_1, bI_n, mlet, mb3_s, mb2_s]
  by_cases h : 2 ≤ kd s
  · rw [if_neg (by omega), decide_eq_true h]; rfl
  · rw [if_pos (by omega), decide_eq_false h]; rfl
theorem m_child {fu : Nat} {M : mwM} {L : mwL} {q N s : Nat} {pa kd de : Nat → Nat} {ac : Nat → Bool} {w : Bool} (hf : 202 ≤ fu) (hT : Tr N pa kd de) (hM : TrM M q N pa kd de) (hA : w = true → ∀ s, 1 ≤ s → s ≤ N → M (q + 9) s = bI (ac s)) (hs : s ≤ N) : DX13_child fu q (sI s) (bI w) M L = some (sI (chF pa kd N (fun c => !w || ac c) s), M, L) := by
  have hN := hT.1
  unfold DX13_child chF
  have key : ∀ (m i f : Nat), 1 ≤ i → i + m = N + 1 → m < f → fX13_child_h2 fu q (sI s) (bI w) f (sI i, M, L) = some (sI (fstN (chP pa kd (fun c => !w || ac c) s) m i), M, L) := by
    intro m
    induction m with
    | zero =>
      intro i f h1 h2 h3
      obtain ⟨g, rfl⟩ : ∃ g, f = g + 1 := ⟨f - 1, by omega⟩
      unfold fX13_child_h2
      rw [mloop_S]
      show fX13_child_i2 fu q (sI s) (bI w) (fX13_child_h2 fu q (sI s) (bI w) g) (sI i) M L = _
      unfold fX13_child_i2
      simp (disch := omega) only [hM.1, mck_s, sI_nn, nn_s, sI_lt, sI_le, sI_eq, sI_ltl, sI_lel, sI_eql, sI_llt, sI_lle, sI_1, bI_0, bI_1, bI_n, mlet, mb3_s, mb2_s]
      rw [if_pos (by omega)]
      rfl
    | succ m ih =>
      intro i f h1 h2 h3
      obtain ⟨g, rfl⟩ : ∃ g, f = g + 1 := ⟨f - 1, by omega⟩
      unfold fX13_child_h2
      rw [mloop_S]
      show fX13_child_i2 fu q (sI s) (bI w) (fX13_child_h2 fu q (sI s) (bI w) g) (sI i) M L = _
      have hi : i ≤ N := by omega
      have hp := Tr_pa hT hi
      have ih2 := ih (i + 1) g (by omega) (by omega) (by omega)
      have e1 := (hM.2 i hi).1
      have e4 := m_mark (fu := fu) (L := L) hT hM hi
      have e5 : w = true → M (q + 9) i = bI (ac i) := fun h => hA h i h1 hi
      have e6 : fstN (chP pa kd (fun c => !w || ac c) s) (m + 1) i = if chP pa kd (fun c => !w || ac c) s i = true then i else fstN (chP pa kd (fun c => !w || ac c) s) m (i + 1) := rfl
      rw [e6]
      unfold fX13_child_i2 fX13_child_b43 fX13_child_b41
      simp (disch := omega) only [hM.1, e1, e4, mck_s, sI_nn, nn_s, sI_lt, sI_le, sI_eq, sI_ltl, sI_lel, sI_eql, sI_llt, sI_lle, sI_1, bI_0, bI_1, bI_n, mlet, mb3_s, mb2_s, ih2]
      rw [if_neg (by omega)]
      unfold chP
      by_cases a1 : pa i = s
      · rw [if_pos a1, decide_eq_true a1]
        by_cases a2 : 2 ≤ kd i
        · rw [decide_eq_true a2, decide_eq_false (by omega)]; simp
        · rw [decide_eq_false a2, decide_eq_true (by omega)]
          cases w with
          | false => simp
          | true =>
            rw [e5 rfl]
            cases hq : ac i <;> simp [bI, hq]
      · rw [if_neg a1, decide_eq_false a1]; simp
  exact key N 1 fu (by omega) (by omega) (by omega)
/-! acts: what is done at entry, at exit, on an edge -/
def Ax (n : Nat) (ax : Nat → Nat → Nat) : Prop := n ≤ 600 ∧ ∀ i, i < n → ax 0 i ≤ 400 ∧ ax 1 i ≤ 2 ∧ ax 2 i < 32 ∧ ax 3 i ≤ 1
def AxC (A : mwM) (k n : Nat) (ax : Nat → Nat → Nat) (va : Nat → Int32) : Prop := A k 9 = sI n ∧ ∀ i, i < n → A (k + 29) i = sI (ax 0 i) ∧ A (k + 30) i = sI (ax 1 i) ∧ A (k + 31) i = sI (ax 2 i) ∧ A (k + 32) i = va i ∧ A (k + 33) i = sI (ax 3 i)
def AxM (M : mwM) (L : mwL) (q n : Nat) (ax : Nat → Nat → Nat) (va : Nat → Int32) : Prop := M q 20 = sI n ∧ ∀ i, i < n → M (q + 17) i = sI (ax 0 i) ∧ M (q + 18) i = sI (ax 1 i + 3 * ax 3 i) ∧ M (q + 19) i = sI (ax 2 i) ∧ L (q + 20) i = (va i).toInt64
def dS (ax : Nat → Nat → Nat) (va : Nat → Int32) (w o : Nat) (D : Nat → Int64) (i : Nat) : Nat → Int64 := if ax 1 i = w ∧ ax 0 i = o then fun j => if j = ax 2 i then (if ax 3 i = 1 then D (ax 2 i) else 0) + (va i).toInt64 else D j else D
def dA (ax : Nat → Nat → Nat) (va : Nat → Int32) (w o : Nat) (D : Nat → Int64) : Nat → Nat → Int64
  | 0 => D
  | i + 1 => dS ax va w o (dA ax va w o D i) i
theorem c_doActs {fu k n w o : Nat} {A : mwM} {L : mwL} {ax : Nat → Nat → Nat} {va : Nat → Int32} (hf : 601 ≤ fu) (hX : Ax n ax) (hC : AxC A k n ax va) (hw : w ≤ 2) (ho : o ≤ 400) : wq (DX2_doActs fu k (sI w) (sI o) A L) (fun z => z.1 = A ∧ z.2 (k + 34) = dA ax va w o (L (k + 34)) n ∧ ∀ b, b ≠ k + 34 → z.2 b = L b) := by
  have hn := hX.1
  unfold DX2_doActs
  refine wq_for (body := fun r s => fX2_doActs_i2 fu k (sI w) (sI o) r s.1 s.2.1 s.2.2) (fun i (l : mwL) => (sI i, A, l)) (fun i l => l (k + 34) = dA ax va w o (L (k + 34)) i ∧ ∀ b, b ≠ k + 34 → l b = L b) n ?_ ?_ n 0 L fu (by omega) (by omega) ⟨rfl, fun _ _ => rfl⟩
  · intro i l r hi ⟨p1, p2⟩ ih
    show wq (fX2_doActs_i2 fu k (sI w) (sI o) r (sI i) A l) _
    obtain ⟨x0, x1, x2, x3⟩ := hX.2 i hi
    obtain ⟨e0, e1, e2, e3, e4⟩ := hC.2 i hi
    simp (disch := omega) only [fX2_doActs_b84, fX2_doActs_b73, fX2_doActs_i2, hC.1, e0, e1, e2, e3, e4, mck_s, sI_nn, nn_s, sI_lt, sI_le, sI_eq, sI_ltl, sI_lel, sI_eql, sI_llt, sI_lle, sI_1, bI_0, bI_1, bI_n, mlet, mb3_s, mb2_s]
    rw [if_neg (by omega)]
    have go : ∀ l2 : mwL, l2 (k + 34) = dS ax va w o (l (k + 34)) i → (∀ b, b ≠ k + 34 → l2 b = l b) → wq (r (sI (i + 1), A, l2)) (fun z => z.1 = A ∧ z.2 (k + 34) = dA ax va w o (L (k + 34)) n ∧ ∀ b, b ≠ k + 34 → z.2 b = L b) := by
      intro l2 h1 h2
      refine ih _ ⟨?_, fun b hb => (h2 b hb).trans (p2 b hb)⟩
      rw [h1, p1]
      rfl
    by_cases c1 : ax 1 i = w
    · rw [if_pos c1]
      by_cases c2 : ax 0 i = o
      · rw [if_pos c2]
        by_cases c3 : ax 3 i = 1
        · rw [if_pos c3]
          refine go _ ?_ (fun b hb => mset_rown hb)
          rw [mset_row]
          unfold dS
          rw [if_pos ⟨c1, c2⟩, if_pos c3]
        · rw [if_neg c3]
          refine go _ ?_ (fun b hb => mset_rown hb)
          rw [mset_row]
          unfold dS
          rw [if_pos ⟨c1, c2⟩, if_neg c3]
      · rw [if_neg c2]
        refine go _ ?_ (fun _ _ => rfl)
        unfold dS
        rw [if_neg (fun z => c2 z.2)]
    · rw [if_neg c1]
      refine go _ ?_ (fun _ _ => rfl)
      unfold dS
      rw [if_neg (fun z => c1 z.1)]
  · intro l r ⟨p1, p2⟩
    show wq (fX2_doActs_i2 fu k (sI w) (sI o) r (sI n) A l) _
    unfold fX2_doActs_i2
    simp (disch := omega) only [hC.1, mck_s, sI_nn, nn_s, sI_lt, sI_le, sI_eq, sI_ltl, sI_lel, sI_eql, sI_llt, sI_lle, sI_1, bI_0, bI_1, bI_n, mlet, mb3_s, mb2_s]
    rw [if_pos (by omega)]
    exact wq_some ⟨rfl, p1, p2⟩
theorem m_doActs {fu q n w o rw' : Nat} {M : mwM} {L : mwL} {ax : Nat → Nat → Nat} {va : Nat → Int32} (hf : 601 ≤ fu) (hX : Ax n ax) (hM : AxM M L q n ax va) (hw : w ≤ 2) (ho : o ≤ 400) (hr : M q 31 = sI rw') (hr2 : rw' ≤ 500) : wq (DX13_doActs fu q (sI o) (sI w) M L) (fun z => z.2 (q + 21) = dA ax va w o (L (q + 21)) n ∧ (∀ b, b ≠ q + 21 → z.2 b = L b) ∧ (∃ r2, r2 ≤ 500 ∧ z.1 q 31 = sI r2) ∧ ∀ b y, ¬ (b = q ∧ y = 31) → b ≠ q + 22 → z.1 b y = M b y) := by
  have hn := hX.1
  unfold DX13_doActs
  refine wq_for (body := fun r s => fX13_doActs_i2 fu q (sI o) (sI w) r s.1 s.2.1 s.2.2) (fun i (l : mwM × mwL) => (sI i, l.1, l.2)) (fun i l => l.2 (q + 21) = dA ax va w o (L (q + 21)) i ∧ (∀ b, b ≠ q + 21 → l.2 b = L b) ∧ (∃ r2, r2 ≤ 500 ∧ l.1 q 31 = sI r2) ∧ ∀ b y, ¬ (b = q ∧ y = 31) → b ≠ q + 22 → l.1 b y = M b y) n ?_ ?_ n 0 (M, L) fu (by omega) (by omega) ⟨rfl, fun _ _ => rfl, ⟨rw', hr2, hr⟩, fun _ _ _ _ => rfl⟩
  · rintro i ⟨a, l⟩ r hi ⟨p1, p2, ⟨r2, p3, p4⟩, p5⟩ ih
    show wq (fX13_doActs_i2 fu q (sI o) (sI w) r (sI i) a l) _
    dsimp only at p1 p2 p4 p5
    obtain ⟨x0, x1, x2, x3⟩ := hX.2 i hi
    obtain ⟨e0, e1, e2, e3⟩ := hM.2 i hi
    have f0 : a q 20 = sI n := (p5 q 20 (by omega) (by omega)).trans hM.1
    rw [← p5 (q + 17) i (by omega) (by omega)] at e0
    rw [← p5 (q + 18) i (by omega) (by omega)] at e1
    rw [← p5 (q + 19) i (by omega) (by omega)] at e2
    rw [← p2 (q + 20) (by omega)] at e3
    have m3 : sI (ax 1 i + 3 * ax 3 i) - sI (ax 1 i + 3 * ax 3 i) / 3 * 3 = sI (ax 1 i) := by
      rw [show sI (ax 1 i + 3 * ax 3 i) - sI (ax 1 i + 3 * ax 3 i) / 3 * 3 = sI ((ax 1 i + 3 * ax 3 i) % 3) from sI_mod (b := 3) (by omega) (by omega)]
      congr 1
      omega
    have go : ∀ l2 : mwL, l2 (q + 21) = dS ax va w o (l (q + 21)) i → (∀ b, b ≠ q + 21 → l2 b = l b) → wq (fX13_doActs_b102 fu q (sI o) (sI w) r (sI i) a l2) (fun z => z.2 (q + 21) = dA ax va w o (L (q + 21)) n ∧ (∀ b, b ≠ q + 21 → z.2 b = L b) ∧ (∃ r2, r2 ≤ 500 ∧ z.1 q 31 = sI r2) ∧ ∀ b y, ¬ (b = q ∧ y = 31) → b ≠ q + 22 → z.1 b y = M b y) ∧ wq (mb2 (DX13_note fu q 2 (sI (ax 2 i)) (l2 (q + 21) (ax 2 i)) a l2) (fun M19 L20 => r (sI (i + 1), M19, L20))) (fun z => z.2 (q + 21) = dA ax va w o (L (q + 21)) n ∧ (∀ b, b ≠ q + 21 → z.2 b = L b) ∧ (∃ r2, r2 ≤ 500 ∧ z.1 q 31 = sI r2) ∧ ∀ b y, ¬ (b = q ∧ y = 31) → b ≠ q + 22 → z.1 b y = M b y) := by
      intro l2 h1 h2
      have h3 : l2 (q + 21) = dA ax va w o (L (q + 21)) (i + 1) := by
        rw [h1, p1]
        rfl
      refine ⟨?_, ?_⟩
      · unfold fX13_doActs_b102
        simp only [mlet]
        rw [sI_1]
        exact ih (a, l2) ⟨h3, fun b hb => (h2 b hb).trans (p2 b hb), ⟨r2, p3, p4⟩, p5⟩
      · refine wq_b2 (m_note (rw' := r2) p4 p3) ?_
        rintro M1 L1 ⟨y1, y2, y3⟩
        dsimp only at y1 y2 y3
        subst y1
        exact ih (M1, L1) ⟨h3, fun b hb => (h2 b hb).trans (p2 b hb), y2, fun b y u1 u2 => (y3 b y u1 u2).trans (p5 b y u1 u2)⟩
    unfold fX13_doActs_i2 fX13_doActs_b79
    simp (disch := omega) only [f0, e0, e1, e2, e3, m3, mck_s, sI_nn, nn_s, sI_lt, sI_le, sI_eq, sI_ltl, sI_lel, sI_eql, sI_llt, sI_lle, sI_1, bI_0, bI_1, bI_n, mlet, mb3_s, mb2_s]
    rw [if_neg (by omega)]
    by_cases c2 : ax 0 i = o
    · rw [if_pos c2]
      by_cases c1 : ax 1 i = w
      · rw [if_pos c1]
        by_cases c3 : ax 3 i = 1
        · rw [if_neg (by omega)]
          unfold fX13_doActs_b102
          simp (disch := omega) only [mck_s, sI_nn, nn_s, sI_lt, sI_le, sI_eq, sI_ltl, sI_lel, sI_eql, sI_llt, sI_lle, sI_1, bI_0, bI_1, bI_n, mlet, mb3_s, mb2_s]
          refine (go _ ?_ (fun b hb => mset_rown hb)).2
          rw [mset_row]
          unfold dS
          rw [if_pos ⟨c1, c2⟩, if_pos c3]
        · rw [if_pos (by omega)]
          unfold fX13_doActs_b102
          simp (disch := omega) only [mck_s, sI_nn, nn_s, sI_lt, sI_le, sI_eq, sI_ltl, sI_lel, sI_eql, sI_llt, sI_lle, sI_1, bI_0, bI_1, bI_n, mlet, mb3_s, mb2_s]
          refine (go _ ?_ (fun b hb => mset_rown hb)).2
          rw [mset_row]
          unfold dS
          rw [if_pos ⟨c1, c2⟩, if_neg c3, Int64.zero_add]
      · rw [if_neg c1]
        refine (go _ ?_ (fun _ _ => rfl)).1
        unfold dS
        rw [if_neg (fun z => c1 z.1)]
    · rw [if_neg c2]
      refine (go _ ?_ (fun _ _ => rfl)).1
      unfold dS
      rw [if_neg (fun z => c2 z.2)]
  · rintro ⟨a, l⟩ r ⟨p1, p2, p3, p5⟩
    show wq (fX13_doActs_i2 fu q (sI o) (sI w) r (sI n) a l) _
    dsimp only at p1 p2 p3 p5
    have f0 : a q 20 = sI n := (p5 q 20 (by omega) (by omega)).trans hM.1
    unfold fX13_doActs_i2
    simp (disch := omega) only [f0, mck_s, sI_nn, nn_s, sI_lt, sI_le, sI_eq, sI_ltl, sI_lel, sI_eql, sI_llt, sI_lle, sI_1, bI_0, bI_1, bI_n, mlet, mb3_s, mb2_s]
    rw [if_pos (by omega)]
    exact wq_some ⟨p1, p2, p3, p5⟩
