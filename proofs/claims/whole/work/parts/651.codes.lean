/-! the reference: one block, the round keys being made -/
theorem ix_m1 : ∀ c, c < 4 → ∀ r, r < 4 → (4 : Int32) * ((sI c + sI r) - (sI c + sI r) / 4 * 4) + sI r = sI (sft (4 * c + r)) ∧ (4 : Int32) * sI c + sI r = sI (4 * c + r) := by decide +kernel
theorem ix_m2 : ∀ c, c < 4 → ∀ r, r < 4 → (4 : Int32) * sI c + ((sI r + 1) - (sI r + 1) / 4 * 4) = sI (col (4 * c + r) 1) ∧ (4 : Int32) * sI c + ((sI r + 2) - (sI r + 2) / 4 * 4) = sI (col (4 * c + r) 2) ∧ (4 : Int32) * sI c + ((sI r + 3) - (sI r + 3) / 4 * 4) = sI (col (4 * c + r) 3) := by decide +kernel
/-- products by 2 and by 3 -/
def pr8 (y : Nat) : Int32 → Int32 × Int32 → Nat → Int32 × Int32
  | _, s, 0 => s
  | b, s, n + 1 => pr8 y b (if (((sI y) >>> (sI (7 - n) &&& 31)) &&& 1) = 1 then s.1 ^^^ s.2 else s.1, if s.2 ≤ 127 then 2 * s.2 else ((2 * s.2) - 256) ^^^ 27) n
theorem m_product {fu : Nat} {M : mwM} {L : mwL} {x : Int32} {y : Nat} (hf : 9 ≤ fu) : ∃ z, DX14_product fu x (sI y) M L = some (z, M, L) ∧ z = (pr8 y 0 (0, x) 8).1 := by
  have h := wq_for (body := fun r s => fX14_product_i7 fu x (sI y) r s.1 s.2.1 s.2.2.1 s.2.2.2.1 s.2.2.2.2) (Q := fun q => q = ((pr8 y 0 (0, x) 8).1, M, L)) (fun j (s : Int32 × Int32) => (s.1, s.2, sI j, M, L)) (fun j s => pr8 y 0 s (8 - j) = pr8 y 0 (0, x) 8) 8 ?_ ?_ 8 0 (0, x) fu (by omega) (by omega) rfl
  · obtain ⟨q, e, rfl⟩ := h
    exact ⟨_, e, rfl⟩
  · rintro j ⟨s1, s2⟩ r hj hP ih
    show wq (fX14_product_i7 fu x (sI y) r s1 s2 (sI j) M L) _
    unfold fX14_product_i7 fX14_product_b31 fX14_product_b54
    rw [if_neg (by rw [sI_lle (by omega) (by omega)]; omega)]
    simp only [mlet]
    rw [sI_1]
    have e8 : 8 - j = (8 - (j + 1)) + 1 := by omega
    have e7 : 7 - (8 - (j + 1)) = j := by omega
    rw [e8] at hP
    change pr8 y 0 (if (((sI y) >>> (sI (7 - (8 - (j + 1))) &&& 31)) &&& 1) = 1 then s1 ^^^ s2 else s1, if s2 ≤ 127 then 2 * s2 else ((2 * s2) - 256) ^^^ 27) (8 - (j + 1)) = _ at hP
    rw [e7] at hP
    by_cases hb : ((sI y >>> (sI j &&& 31)) &&& 1) = 1
    · rw [if_pos hb] at hP ⊢
      by_cases h127 : s2 ≤ 127
      · rw [if_pos h127] at hP ⊢
        exact ih (s1 ^^^ s2, 2 * s2) hP
      · rw [if_neg h127] at hP ⊢
        exact ih (s1 ^^^ s2, ((2 * s2) - 256) ^^^ 27) hP
    · rw [if_neg hb] at hP ⊢
      by_cases h127 : s2 ≤ 127
      · rw [if_pos h127] at hP ⊢
        exact ih (s1, 2 * s2) hP
      · rw [if_neg h127] at hP ⊢
        exact ih (s1, ((2 * s2) - 256) ^^^ 27) hP
  · rintro ⟨s1, s2⟩ r hP
    show wq (fX14_product_i7 fu x (sI y) r s1 s2 (sI 8) M L) _
    unfold fX14_product_i7
    rw [if_pos (by decide)]
    change pr8 y 0 (s1, s2) 0 = _ at hP
    have e1 : s1 = (pr8 y 0 (0, x) 8).1 := by rw [← hP]; rfl
    exact wq_some (by rw [e1])
/-- the doubling of octets -/
def dblN (y : Nat) : Nat := if y < 128 then 2 * y else (2 * y - 256) ^^^ 27
theorem dblN_lt : ∀ y, y < 256 → dblN y < 256 := by decide +kernel
theorem pr_2 : ∀ y, y < 256 → (pr8 2 0 (0, sI y) 8).1 = sI (dblN y) := by decide +kernel
theorem pr_3 : ∀ y, y < 256 → (pr8 3 0 (0, sI y) 8).1 = sI (dblN y ^^^ y) := by decide +kernel
theorem m_prod2 {fu : Nat} {M : mwM} {L : mwL} {y : Nat} (hf : 9 ≤ fu) (hy : y < 256) : DX14_product fu (sI y) 2 M L = some (sI (dblN y), M, L) := by
  obtain ⟨z, h1, h2⟩ := m_product (fu := fu) (M := M) (L := L) (x := sI y) (y := 2) hf
  rw [pr_2 y hy] at h2
  rw [← h2]
  exact h1
theorem m_prod3 {fu : Nat} {M : mwM} {L : mwL} {y : Nat} (hf : 9 ≤ fu) (hy : y < 256) : DX14_product fu (sI y) 3 M L = some (sI (dblN y ^^^ y), M, L) := by
  obtain ⟨z, h1, h2⟩ := m_product (fu := fu) (M := M) (L := L) (x := sI y) (y := 3) hf
  rw [pr_3 y hy] at h2
  rw [← h2]
  exact h1
theorem m_rounds {fu : Nat} {M : mwM} {L : mwL} {base : Int32} {S rk x : Nat → Nat} (hf : 17 ≤ fu) (hS : bytes M 868 256 S) (hk : bytes M 865 176 rk) (hx : bytes M 863 16 (encN S dblN rk x 0)) (hx' : ∀ i, i < 16 → x i < 256) : wq (fX14_cipher_h40 fu base fu (1, M, L)) (fun q => q.2 = L ∧ bytes q.1 863 16 (encN S dblN rk x 10) ∧ ∀ b y, b ≠ 863 → b ≠ 864 → q.1 b y = M b y) := by
  have hS' : ∀ y, y < 256 → S y < 256 := fun y hy => (hS y hy).2
  have hk' : ∀ i, i < 176 → rk i < 256 := fun i hi => (hk i hi).2
  have he := encN_lt hS' dblN_lt hk' hx'
  refine wq_for (body := fun r s => fX14_cipher_i40 fu base r s.1 s.2.1 s.2.2) (fun j (a : mwM) => (sI (j + 1), a, L)) (fun j a => bytes a 863 16 (encN S dblN rk x j) ∧ ∀ b y, b ≠ 863 → b ≠ 864 → a b y = M b y) 10 ?_ ?_ 10 0 M fu (by omega) (by omega) ⟨hx, fun _ _ _ _ => rfl⟩
  · intro j a r hj ⟨p1, p2⟩ ih
    show wq (fX14_cipher_i40 fu base r (sI (j + 1)) a L) _
    unfold fX14_cipher_i40
    rw [if_neg (by rw [sI_lle (by omega) (by omega)]; omega)]
    -- octets replaced and moved
    refine wq_for (body := fun r48 s => fX14_cipher_i48 fu base r r48 s.1 s.2.1 s.2.2.1 s.2.2.2) (fun c (a2 : mwM) => (sI (j + 1), sI c, a2, L)) (fun c a2 => (∀ y, y < 4 * c → a2 864 y = sI (S (encN S dblN rk x j (sft y)))) ∧ bytes a2 863 16 (encN S dblN rk x j) ∧ ∀ b y, b ≠ 863 → b ≠ 864 → a2 b y = M b y) 4 ?_ ?_ 4 0 a fu (by omega) (by omega) ⟨fun y hy => by omega, p1, p2⟩
    · intro c a2 r48 hc ⟨s1, s2, s3⟩ ih2
      show wq (fX14_cipher_i48 fu base r r48 (sI (j + 1)) (sI c) a2 L) _
      unfold fX14_cipher_i48
      rw [if_neg (by rw [sI_lle (by omega) (by omega)]; omega)]
      refine wq_for (body := fun r56 s => fX14_cipher_i56 fu base r r48 r56 s.1 s.2.1 s.2.2.1 s.2.2.2.1 s.2.2.2.2) (fun q (a3 : mwM) => (sI (j + 1), sI c, sI q, a3, L)) (fun q a3 => (∀ y, y < 4 * c + q → a3 864 y = sI (S (encN S dblN rk x j (sft y)))) ∧ bytes a3 863 16 (encN S dblN rk x j) ∧ ∀ b y, b ≠ 863 → b ≠ 864 → a3 b y = M b y) 4 ?_ ?_ 4 0 a2 fu (by omega) (by omega) ⟨s1, s2, s3⟩
      · intro q a3 r56 hq ⟨t1, t2, t3⟩ ih3
        show wq (fX14_cipher_i56 fu base r r48 r56 (sI (j + 1)) (sI c) (sI q) a3 L) _
        unfold fX14_cipher_i56 DX14_substitute
        obtain ⟨e1, e2⟩ := ix_m1 c hc q hq
        have hsl := sft_lt (4 * c + q)
        have hel := he j (by omega) _ hsl
        rw [if_neg (by rw [sI_lle (by omega) (by omega)]; omega), e1, e2, mck_s hsl (by omega), sI_nn (by omega), (t2 _ hsl).1, mck_s hel (by omega), mb3_s, mck_s (by omega) (by omega), sI_nn (by omega), sI_nn (by omega), t3 868 _ (by omega) (by omega), (hS _ hel).1]
        simp only [mlet]
        rw [sI_1]
        refine ih3 (mset a3 864 (4 * c + q) (sI (S (encN S dblN rk x j (sft (4 * c + q)))))) ⟨?_, ?_, ?_⟩
        · intro y hy
          by_cases hyi : y = 4 * c + q
          · rw [hyi, mset_s]
          · rw [mset_j hyi]; exact t1 y (by omega)
        · intro y hy
          rw [mset_k (by decide)]; exact t2 y hy
        · intro b y q1 q2
          rw [mset_k q2]; exact t3 b y q1 q2
      · intro a3 r56 ⟨t1, t2, t3⟩
        show wq (fX14_cipher_i56 fu base r r48 r56 (sI (j + 1)) (sI c) (sI 4) a3 L) _
        unfold fX14_cipher_i56
        rw [if_pos (by decide)]
        simp only [mlet]
        rw [sI_1]
        exact ih2 a3 ⟨fun y hy => t1 y (by omega), t2, t3⟩
    · intro a2 r48 ⟨s1, s2, s3⟩
      show wq (fX14_cipher_i48 fu base r r48 (sI (j + 1)) (sI 4) a2 L) _
      unfold fX14_cipher_i48
      rw [if_pos (by decide)]
      -- mixed
      refine wq_for (body := fun r107 s => fX14_cipher_i107 fu base r r107 s.1 s.2.1 s.2.2.1 s.2.2.2) (fun c (a3 : mwM) => (sI (j + 1), sI c, a3, L)) (fun c a3 => (∀ y, y < 16 → a3 864 y = sI (S (encN S dblN rk x j (sft y)))) ∧ (∀ y, y < 4 * c → a3 863 y = sI (encN S dblN rk x (j + 1) y)) ∧ ∀ b y, b ≠ 863 → b ≠ 864 → a3 b y = M b y) 4 ?_ ?_ 4 0 a2 fu (by omega) (by omega) ⟨fun y hy => s1 y (by omega), fun y hy => by omega, s3⟩
      · intro c a3 r107 hc ⟨t1, t2, t3⟩ ih2
        show wq (fX14_cipher_i107 fu base r r107 (sI (j + 1)) (sI c) a3 L) _
        unfold fX14_cipher_i107
        rw [if_neg (by rw [sI_lle (by omega) (by omega)]; omega)]
        refine wq_for (body := fun r115 s => fX14_cipher_i115 fu base r r107 r115 s.1 s.2.1 s.2.2.1 s.2.2.2.1 s.2.2.2.2) (fun q (a4 : mwM) => (sI (j + 1), sI c, sI q, a4, L)) (fun q a4 => (∀ y, y < 16 → a4 864 y = sI (S (encN S dblN rk x j (sft y)))) ∧ (∀ y, y < 4 * c + q → a4 863 y = sI (encN S dblN rk x (j + 1) y)) ∧ ∀ b y, b ≠ 863 → b ≠ 864 → a4 b y = M b y) 4 ?_ ?_ 4 0 a3 fu (by omega) (by omega) ⟨t1, t2, t3⟩
        · intro q a4 r115 hq ⟨u1, u2, u3⟩ ih3
          show wq (fX14_cipher_i115 fu base r r107 r115 (sI (j + 1)) (sI c) (sI q) a4 L) _
          unfold fX14_cipher_i115 fX14_cipher_b200
          obtain ⟨_, e2⟩ := ix_m1 c hc q hq
          obtain ⟨f1, f2, f3⟩ := ix_m2 c hc q hq
          have hi : 4 * c + q < 16 := by omega
          have c1 := col_lt _ hi 1 (by omega)
          have c2 := col_lt _ hi 2 (by omega)
          have c3 := col_lt _ hi 3 (by omega)
          have hs : ∀ y, S (encN S dblN rk x j (sft y)) < 256 := fun y => hS' _ (he j (by omega) _ (sft_lt y))
          have hrow : (16 : Int32) * sI (j + 1) + 4 * sI c + sI q = sI (16 * (j + 1) + (4 * c + q)) := by
            rw [sI_lml, sI_lml, sI_add, sI_add]
            congr 1
            show 16 * (j + 1) + 4 * c + q = _
            omega
          rw [if_neg (by rw [sI_lle (by omega) (by omega)]; omega), e2, mck_s hi (by omega), sI_nn (by omega), u1 _ hi]
          simp only [mlet]
          have fin : ∀ (z : Nat), z ^^^ rk (16 * (j + 1) + (4 * c + q)) = encN S dblN rk x (j + 1) (4 * c + q) → wq (mck (((16 * sI (j + 1)) + (4 * sI c)) + sI q) 176 (mck (sI (4 * c + q)) 16 (r115 (sI (j + 1), sI c, sI q + 1, mset a4 863 (4 * c + q) (sI z ^^^ (a4 865 (((16 * sI (j + 1)) + (4 * sI c)) + sI q).toNatClampNeg)), L)))) (fun q => q.2 = L ∧ bytes q.1 863 16 (encN S dblN rk x 10) ∧ ∀ b y, b ≠ 863 → b ≠ 864 → q.1 b y = M b y) := by
            intro z hz
            rw [hrow, mck_s (by omega) (by omega), mck_s hi (by omega), sI_nn (by omega), u3 _ _ (by omega) (by omega), (hk _ (by omega)).1, sI_xor, hz, sI_1]
            refine ih3 (mset a4 863 (4 * c + q) (sI (encN S dblN rk x (j + 1) (4 * c + q)))) ⟨?_, ?_, ?_⟩
            · intro y hy
              rw [mset_k (by decide)]; exact u1 y hy
            · intro y hy
              by_cases hyi : y = 4 * c + q
              · rw [hyi, mset_s]
              · rw [mset_j hyi]; exact u2 y (by omega)
            · intro b y q1 q2
              rw [mset_k q1]; exact u3 b y q1 q2
          by_cases hj9 : j + 1 = 10
          · rw [if_pos (by rw [sI_lle (by omega) (by omega)]; omega)]
            refine fin _ ?_
            show _ = rnd S dblN (decide (j + 1 = 10)) _ _ (4 * c + q)
            unfold rnd
            rw [if_pos (by simp [hj9])]
          · rw [if_neg (by rw [sI_lle (by omega) (by omega)]; omega), m_prod2 (by omega) (hs _), mb3_s, f1, f2, f3, mck_s c1 (by omega), sI_nn (by omega), u1 _ c1, m_prod3 (by omega) (hs _), mb3_s, mck_s c2 (by omega), mck_s c3 (by omega), sI_nn (by omega), sI_nn (by omega), u1 _ c2, u1 _ c3, sI_xor, sI_xor, sI_xor]
            refine fin _ ?_
            show _ = rnd S dblN (decide (j + 1 = 10)) _ _ (4 * c + q)
            unfold rnd
            rw [if_neg (by simp [hj9]), col_0 _ hi]
            simp only [Nat.xor_assoc]
        · intro a4 r115 ⟨u1, u2, u3⟩
          show wq (fX14_cipher_i115 fu base r r107 r115 (sI (j + 1)) (sI c) (sI 4) a4 L) _
          unfold fX14_cipher_i115
          rw [if_pos (by decide)]
          simp only [mlet]
          rw [sI_1]
          exact ih2 a4 ⟨u1, fun y hy => u2 y (by omega), u3⟩
      · intro a3 r107 ⟨t1, t2, t3⟩
        show wq (fX14_cipher_i107 fu base r r107 (sI (j + 1)) (sI 4) a3 L) _
        unfold fX14_cipher_i107
        rw [if_pos (by decide)]
        simp only [mlet]
        rw [sI_1]
        exact ih a3 ⟨fun y hy => ⟨t2 y (by omega), he (j + 1) (by omega) y hy⟩, t3⟩
  · intro a r ⟨p1, p2⟩
    show wq (fX14_cipher_i40 fu base r (sI 11) a L) _
    unfold fX14_cipher_i40
    rw [if_pos (by decide)]
    exact wq_some ⟨rfl, p1, p2⟩
