theorem schL_st {S k0 : Nat → Nat} {n y : Nat} (hy : y < 16 + n) : ∀ m, schL S k0 (n + m) y = schL S k0 n y := by
  intro m
  induction m with
  | zero => rfl
  | succ m ih =>
    show (if y = 16 + (n + m) then _ else schL S k0 (n + m) y) = _
    rw [if_neg (by omega), ih]
theorem schL_v {S k0 : Nat → Nat} (n : Nat) : schL S k0 (n + 1) (16 + n) = schV S (schL S k0 n) (16 + n) := by
  show (if 16 + n = 16 + n then _ else _) = _
  rw [if_pos rfl]
def frst4 (n : Nat) : Bool := zero16 (16 + 4 * n)
theorem ix_c : ∀ n, n < 40 → (sI (16 + 4 * n) - sI (16 + 4 * n) / 16 * 16 = 0 ↔ frst4 n = true) := by decide +kernel
theorem ix_c2 : ∀ n, n < 40 → ∀ r, r < 4 → frst (16 + (4 * n + r)) = frst4 n ∧ (zero16 (16 + (4 * n + r)) = true ↔ (frst4 n = true ∧ r = 0)) ∧ rt4 (16 + (4 * n + r)) < 16 + 4 * n ∧ (sI (16 + 4 * n) - 4) + ((sI r + 1) - (sI r + 1) / 4 * 4) = sI (rt4 (16 + (4 * n + r))) ∧ (sI (16 + 4 * n) - 4) + sI r = sI (16 + (4 * n + r) - 4) ∧ (sI (16 + 4 * n) + sI r) - 16 = sI (16 + (4 * n + r) - 16) := by decide +kernel
theorem pwA_4 : ∀ n, n < 40 → (frst4 n = true → pwA (16 + 4 * n) = pwB (16 + 4 * n) ∧ dblN (pwA (16 + 4 * n)) = pwA (16 + 4 * (n + 1))) ∧ (frst4 n = false → pwA (16 + 4 * n) = pwA (16 + 4 * (n + 1))) := by decide +kernel
/-- the class: the round keys of a key -/
theorem c_spread {fu : Nat} {A : mwM} {L : mwL} {key : Nat} {S : Nat → Nat} (hf : 41 ≤ fu) (hkey : key < 17) (hS : bytes A 98 256 S) (hD : bytes A 99 256 dblN) : wq (DX3_spreadKey fu (sI key) A L) (fun q => q.2 = L ∧ bytes q.1 (101 + key) 176 (schL S (fun i => key + i) 160) ∧ ∀ b y, b ≠ 101 + key → q.1 b y = A b y) := by
  have hS' : ∀ y, y < 256 → S y < 256 := fun y hy => (hS y hy).2
  have hlt := schL_lt (S := S) (k0 := fun i => key + i) hS' (fun i hi => by show key + i < 256; omega)
  have sched : ∀ (A1 : mwM), (∀ i, i < 16 → A1 (101 + key) i = sI (key + i)) → (∀ b y, b ≠ 101 + key → A1 b y = A b y) → wq (fX3_spreadKey_h37 fu (sI key) fu (101 + key, 1, 16, A1, L)) (fun q => q.2 = L ∧ bytes q.1 (101 + key) 176 (schL S (fun i => key + i) 160) ∧ ∀ b y, b ≠ 101 + key → q.1 b y = A b y) := by
    intro A1 h1 h2
    refine wq_for (body := fun r s => fX3_spreadKey_i37 fu (sI key) r s.1 s.2.1 s.2.2.1 s.2.2.2.1 s.2.2.2.2) (fun n (a : mwM) => (101 + key, sI (pwA (16 + 4 * n)), sI (16 + 4 * n), a, L)) (fun n a => (∀ i, i < 16 + 4 * n → a (101 + key) i = sI (schL S (fun i => key + i) (4 * n) i)) ∧ ∀ b y, b ≠ 101 + key → a b y = A b y) 40 ?_ ?_ 40 0 A1 fu (by omega) (by omega) ⟨h1, h2⟩
    · intro n a r hn ⟨p1, p2⟩ ih
      show wq (fX3_spreadKey_i37 fu (sI key) r (101 + key) (sI (pwA (16 + 4 * n))) (sI (16 + 4 * n)) a L) _
      have x1 := ix_c n hn
      have x2 := ix_c2 n hn
      obtain ⟨z1, z2⟩ := pwA_4 n hn
      have hpl := pwA_lt (16 + 4 * n)
      have hl := hlt (4 * n) (by omega)
      -- four octets; of the first only the power is wanting
      have four : ∀ (s0 : Int32), (s0 = if frst4 n = true then 1 else 0) → wq (fX3_spreadKey_h63 fu (sI key) r fu (101 + key, sI (pwA (16 + 4 * n)), sI (16 + 4 * n), s0, 0, a, L)) (fun q => q.2 = L ∧ bytes q.1 (101 + key) 176 (schL S (fun i => key + i) 160) ∧ ∀ b y, b ≠ 101 + key → q.1 b y = A b y) := by
        intro s0 hs0
        refine wq_for (body := fun r63 s => fX3_spreadKey_i63 fu (sI key) r r63 s.1 s.2.1 s.2.2.1 s.2.2.2.1 s.2.2.2.2.1 s.2.2.2.2.2.1 s.2.2.2.2.2.2) (fun q (a2 : mwM) => (101 + key, sI (pwA (16 + 4 * n)), sI (16 + 4 * n), s0, sI q, a2, L)) (fun q a2 => (∀ i, i < 16 + 4 * n → a2 (101 + key) i = sI (schL S (fun i => key + i) (4 * n) i)) ∧ (∀ t, t < q → a2 (101 + key) (16 + (4 * n + t)) = sI (if frst4 n = true ∧ t = 0 then schL S (fun i => key + i) (4 * n) (16 + (4 * n) - 16) ^^^ S (schL S (fun i => key + i) (4 * n) (rt4 (16 + (4 * n + 0)))) else schL S (fun i => key + i) (4 * n + t + 1) (16 + (4 * n + t)))) ∧ ∀ b y, b ≠ 101 + key → a2 b y = A b y) 4 ?_ ?_ 4 0 a fu (by omega) (by omega) ⟨p1, fun t ht => by omega, p2⟩
        · intro q a2 r63 hq ⟨s1, s2, s3⟩ ih2
          show wq (fX3_spreadKey_i63 fu (sI key) r r63 (101 + key) (sI (pwA (16 + 4 * n))) (sI (16 + 4 * n)) s0 (sI q) a2 L) _
          obtain ⟨y1, y2, y3, y4, y5, y6⟩ := x2 q hq
          have hrl := hl _ y3
          have hsl := hS' _ hrl
          have hv : schL S (fun i => key + i) (4 * n + q + 1) (16 + (4 * n + q)) = schL S (fun i => key + i) (4 * n) (16 + (4 * n + q) - 16) ^^^ (if frst4 n = true then (if zero16 (16 + (4 * n + q)) = true then S (schL S (fun i => key + i) (4 * n) (rt4 (16 + (4 * n + q)))) ^^^ pwB (16 + (4 * n + q)) else S (schL S (fun i => key + i) (4 * n) (rt4 (16 + (4 * n + q))))) else schL S (fun i => key + i) (4 * n) (16 + (4 * n + q) - 4)) := by
            rw [schL_v]
            unfold schV
            rw [y1, schL_st (n := 4 * n) (by omega) q, schL_st (n := 4 * n) y3 q, schL_st (n := 4 * n) (y := 16 + (4 * n + q) - 4) (by omega) q]
          -- the octet is put
          have put : ∀ (v : Nat), schL S (fun i => key + i) (4 * n) (16 + (4 * n + q) - 16) ^^^ v = (if frst4 n = true ∧ q = 0 then schL S (fun i => key + i) (4 * n) (16 + (4 * n) - 16) ^^^ S (schL S (fun i => key + i) (4 * n) (rt4 (16 + (4 * n + 0)))) else schL S (fun i => key + i) (4 * n + q + 1) (16 + (4 * n + q))) → wq (fX3_spreadKey_b120 fu (sI key) r r63 (101 + key) (sI (pwA (16 + 4 * n))) (sI (16 + 4 * n)) s0 (sI q) (101 + key) (sI (16 + 4 * n) + sI q) (sI (schL S (fun i => key + i) (4 * n) (16 + (4 * n + q) - 16))) (sI v) a2 L) (fun q => q.2 = L ∧ bytes q.1 (101 + key) 176 (schL S (fun i => key + i) 160) ∧ ∀ b y, b ≠ 101 + key → q.1 b y = A b y) := by
            intro v hvv
            unfold fX3_spreadKey_b120
            rw [sI_add, mck_s (by omega) (by omega), sI_nn (by omega), sI_xor, hvv]
            simp only [mlet]
            rw [sI_1]
            refine ih2 (mset a2 (101 + key) (16 + 4 * n + q) (sI (if frst4 n = true ∧ q = 0 then schL S (fun i => key + i) (4 * n) (16 + (4 * n) - 16) ^^^ S (schL S (fun i => key + i) (4 * n) (rt4 (16 + (4 * n + 0)))) else schL S (fun i => key + i) (4 * n + q + 1) (16 + (4 * n + q))))) ⟨?_, ?_, ?_⟩
            · intro i hi
              rw [mset_j (by omega)]; exact s1 i hi
            · intro t ht
              by_cases htq : t = q
              · subst htq
                rw [show 16 + (4 * n + t) = 16 + 4 * n + t by omega, mset_s]
              · rw [mset_j (by omega)]; exact s2 t (by omega)
            · intro b y qq
              rw [mset_k qq]; exact s3 b y qq
          unfold fX3_spreadKey_i63
          rw [if_neg (by rw [sI_lle (by omega) (by omega)]; omega), y6, mck_s (by omega) (by omega), sI_nn (by omega), s1 _ (by omega)]
          by_cases hF : frst4 n = true
          · rw [if_neg (by rw [hs0, if_pos hF]; decide), y4, mck_s (by omega) (by omega), sI_nn (by omega), s1 _ y3, mck_s hrl (by omega), sI_nn (by omega), s3 98 _ (by omega), (hS _ hrl).1]
            refine put _ ?_
            by_cases hq0 : q = 0
            · subst hq0
              rw [if_pos ⟨hF, rfl⟩]
              rfl
            · rw [if_neg (fun qq => hq0 qq.2), hv, if_pos hF, if_neg (fun qq => hq0 (y2.mp qq).2)]
          · rw [if_pos (by rw [hs0, if_neg hF]), y5, mck_s (by omega) (by omega), sI_nn (by omega), s1 _ (by omega)]
            refine put _ ?_
            rw [if_neg (fun qq => hF qq.1), hv, if_neg hF]
        · intro a2 r63 ⟨s1, s2, s3⟩
          show wq (fX3_spreadKey_i63 fu (sI key) r r63 (101 + key) (sI (pwA (16 + 4 * n))) (sI (16 + 4 * n)) s0 (sI 4) a2 L) _
          unfold fX3_spreadKey_i63 fX3_spreadKey_b148
          rw [if_pos (by decide)]
          simp only [mlet]
          have hnx : sI (16 + 4 * n) + 4 = sI (16 + 4 * (n + 1)) := by
            rw [sI_adl]
            congr 1
          rw [hnx]
          by_cases hF : frst4 n = true
          · obtain ⟨z3, z4⟩ := z1 hF
            have hw0 := s2 0 (by omega)
            rw [if_pos ⟨hF, rfl⟩] at hw0
            have hw1 : a2 (101 + key) (16 + 4 * n) = sI (schL S (fun i => key + i) (4 * n) (16 + (4 * n) - 16) ^^^ S (schL S (fun i => key + i) (4 * n) (rt4 (16 + (4 * n + 0))))) := hw0
            rw [if_neg (by rw [hs0, if_pos hF]; decide), mck_s (by omega) (by omega), mck_s (by omega) (by omega), sI_nn (by omega), hw1, sI_xor, mck_s hpl (by omega), sI_nn (by omega), mset_k (by omega), s3 99 _ (by omega), (hD _ hpl).1, z4]
            refine ih (mset a2 (101 + key) (16 + (4 * n + 0)) (sI (schL S (fun i => key + i) (4 * n) (16 + (4 * n) - 16) ^^^ S (schL S (fun i => key + i) (4 * n) (rt4 (16 + (4 * n + 0)))) ^^^ pwA (16 + (4 * n + 0))))) ⟨?_, ?_⟩
            · intro i hi
              by_cases hi0 : i = 16 + (4 * n + 0)
              · rw [hi0, mset_s]
                obtain ⟨y1, y2, y3, _, _, _⟩ := x2 0 (by omega)
                rw [show 4 * (n + 1) = 4 * n + 0 + 1 + 3 by omega, schL_st (n := 4 * n + 0 + 1) (by omega) 3]
                rw [show schL S (fun i => key + i) (4 * n + 0 + 1) (16 + (4 * n + 0)) = schV S (schL S (fun i => key + i) (4 * n)) (16 + (4 * n + 0)) from schL_v (4 * n)]
                unfold schV
                rw [if_pos (y1.trans hF), if_pos (y2.mpr ⟨hF, rfl⟩), Nat.xor_assoc]
                rw [show pwA (16 + (4 * n + 0)) = pwB (16 + (4 * n + 0)) from z3]
                rfl
              · rw [mset_j hi0]
                by_cases hlo : i < 16 + 4 * n
                · rw [s1 i hlo, show 4 * (n + 1) = 4 * n + 4 by omega, schL_st (n := 4 * n) hlo 4]
                · obtain ⟨t, rfl⟩ : ∃ t, i = 16 + (4 * n + t) := ⟨i - 16 - 4 * n, by omega⟩
                  have ht := s2 t (by omega)
                  rw [if_neg (fun qq => hi0 (by rw [qq.2]))] at ht
                  rw [ht, show 4 * (n + 1) = 4 * n + t + 1 + (3 - t) by omega, schL_st (n := 4 * n + t + 1) (by omega) (3 - t)]
            · intro b y qq
              rw [mset_k qq]; exact s3 b y qq
          · have hF' : frst4 n = false := by simpa using hF
            rw [if_pos (by rw [hs0, if_neg hF]), z2 hF']
            refine ih a2 ⟨?_, s3⟩
            intro i hi
            by_cases hlo : i < 16 + 4 * n
            · rw [s1 i hlo, show 4 * (n + 1) = 4 * n + 4 by omega, schL_st (n := 4 * n) hlo 4]
            · obtain ⟨t, rfl⟩ : ∃ t, i = 16 + (4 * n + t) := ⟨i - 16 - 4 * n, by omega⟩
              have ht := s2 t (by omega)
              rw [if_neg (fun qq => hF qq.1)] at ht
              rw [ht, show 4 * (n + 1) = 4 * n + t + 1 + (3 - t) by omega, schL_st (n := 4 * n + t + 1) (by omega) (3 - t)]
      unfold fX3_spreadKey_i37 fX3_spreadKey_b58
      rw [if_neg (by rw [sI_lle (by omega) (by omega)]; omega)]
      by_cases hF : frst4 n = true
      · rw [if_pos (x1.mpr hF)]
        exact four 1 (by rw [if_pos hF])
      · rw [if_neg (fun qq => hF (x1.mp qq))]
        exact four 0 (by rw [if_neg hF])
    · intro a r ⟨p1, p2⟩
      show wq (fX3_spreadKey_i37 fu (sI key) r (101 + key) (sI (pwA (16 + 4 * 40))) (sI (16 + 4 * 40)) a L) _
      unfold fX3_spreadKey_i37
      rw [if_pos (by decide)]
      exact wq_some ⟨rfl, fun i hi => ⟨p1 i (by omega), hlt 160 (Nat.le_refl _) i (by omega)⟩, p2⟩
  unfold DX3_spreadKey
  rw [mck_s hkey (by omega), sI_nn (by omega)]
  refine wq_for (body := fun r s => fX3_spreadKey_i12 fu (sI key) r s.1 s.2.1 s.2.2.1 s.2.2.2.1 s.2.2.2.2) (fun i (a : mwM) => (101 + key, 1, sI i, a, L)) (fun i a => (∀ y, y < i → a (101 + key) y = sI (key + y)) ∧ ∀ b y, b ≠ 101 + key → a b y = A b y) 16 ?_ ?_ 16 0 A fu (by omega) (by omega) ⟨fun y hy => by omega, fun _ _ _ => rfl⟩
  · intro i a r hi ⟨s1, s2⟩ ih
    show wq (fX3_spreadKey_i12 fu (sI key) r (101 + key) 1 (sI i) a L) _
    unfold fX3_spreadKey_i12
    rw [if_neg (by rw [sI_lle (by omega) (by omega)]; omega), mck_s (by omega) (by omega), sI_nn (by omega), sI_add]
    simp only [mlet]
    rw [sI_1]
    refine ih (mset a (101 + key) i (sI (key + i))) ⟨?_, ?_⟩
    · intro y hy
      by_cases hyi : y = i
      · rw [hyi, mset_s]
      · rw [mset_j hyi]; exact s1 y (by omega)
    · intro b y q
      rw [mset_k q]; exact s2 b y q
  · intro a r ⟨s1, s2⟩
    show wq (fX3_spreadKey_i12 fu (sI key) r (101 + key) 1 (sI 16) a L) _
    unfold fX3_spreadKey_i12
    rw [if_pos (by decide)]
    exact sched a s1 s2
