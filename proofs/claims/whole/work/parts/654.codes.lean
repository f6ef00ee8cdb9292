/-! the second key: shifted, as both sides do it -/
def hi7 (x : Nat) : Nat := x / 128
def lo7 (x c : Nat) : Nat := (2 * x) % 256 + c
theorem hi7_lt : ∀ x, x < 256 → hi7 x < 2 := by decide +kernel
theorem lo7_lt : ∀ x, x < 256 → ∀ c, c < 2 → lo7 x c < 256 := by decide +kernel
def dbS (x : Nat → Nat) (i : Nat) : Nat := if i < 15 then lo7 (x i) (hi7 (x (i + 1))) else lo7 (x i) 0 ^^^ (if hi7 (x 0) = 1 then 135 else 0)
theorem dbS_lt {x : Nat → Nat} (hx : ∀ i, i < 16 → x i < 256) (i : Nat) (hi : i < 16) : dbS x i < 256 := by
  unfold dbS
  split
  · exact lo7_lt _ (hx i hi) _ (hi7_lt _ (hx _ (by omega)))
  · refine xor_8 (lo7_lt _ (hx i hi) 0 (by decide)) ?_
    split <;> decide
theorem sh_c : ∀ x, x < 256 → ∀ c, c < 2 → ((sI x <<< (1 &&& 31)) &&& 255) ||| sI c = sI (lo7 x c) := by decide +kernel
theorem sh_7 : ∀ x, x < 256 → sI x >>> (7 &&& 31) = sI (hi7 x) := by decide +kernel
theorem sh_m : ∀ x, x < 256 → ∀ c, c < 2 → ((2 * sI x) + sI c) &&& 255 = sI (lo7 x c) ∧ ((2 * sI x) + sI c) >>> (8 &&& 31) = sI (hi7 x) := by decide +kernel
/-- the class: one shift -/
theorem c_shift {fu : Nat} {A : mwM} {L : mwL} {key v2 : Nat} {x : Nat → Nat} {r56 : Int32 × mwM × mwL → Option (mwM × mwL)} {Q : mwM × mwL → Prop} (hf : 17 ≤ fu) (hkey : key < 17) (hx : bytes A (119 + key) 16 x) (hQ : ∀ A', bytes A' (119 + key) 16 (dbS x) → (∀ b y, b ≠ 119 + key → A' b y = A b y) → wq (r56 (sI (v2 + 1), A', L)) Q) : wq (fX3_makeSecond_h76 fu (sI key) r56 fu (sI v2, sI (hi7 (x 0)), 0, A, L)) Q := by
  have hx' : ∀ i, i < 16 → x i < 256 := fun i hi => (hx i hi).2
  have h70 := hi7_lt _ (hx' 0 (by omega))
  refine wq_for (body := fun r s => fX3_makeSecond_i76 fu (sI key) r56 r s.1 s.2.1 s.2.2.1 s.2.2.2.1 s.2.2.2.2) (fun i (a : mwM) => (sI v2, sI (hi7 (x 0)), sI i, a, L)) (fun i a => (∀ y, y < i → a (119 + key) y = sI (if y < 15 then lo7 (x y) (hi7 (x (y + 1))) else lo7 (x y) 0)) ∧ (∀ y, i ≤ y → y < 16 → a (119 + key) y = sI (x y)) ∧ ∀ b y, b ≠ 119 + key → a b y = A b y) 16 ?_ ?_ 16 0 A fu (by omega) (by omega) ⟨fun y hy => by omega, fun y _ hy => (hx y hy).1, fun _ _ _ => rfl⟩
  · intro i a r hi ⟨s1, s2, s3⟩ ih
    show wq (fX3_makeSecond_i76 fu (sI key) r56 r (sI v2) (sI (hi7 (x 0))) (sI i) a L) _
    have fin : ∀ (c : Nat), c < 2 → lo7 (x i) c = (if i < 15 then lo7 (x i) (hi7 (x (i + 1))) else lo7 (x i) 0) → wq (fX3_makeSecond_b110 fu (sI key) r56 r (sI v2) (sI (hi7 (x 0))) (sI i) (sI c) a L) Q := by
      intro c hc hv
      unfold fX3_makeSecond_b110
      simp (disch := omega) only [mlet, mck_s, sI_nn]
      rw [s2 i (Nat.le_refl _) hi, sh_c _ (hx' i hi) c hc, hv, sI_1]
      refine ih (mset a (119 + key) i (sI (if i < 15 then lo7 (x i) (hi7 (x (i + 1))) else lo7 (x i) 0))) ⟨?_, ?_, ?_⟩
      · intro y hy
        by_cases hyi : y = i
        · rw [hyi, mset_s]
        · rw [mset_j hyi]; exact s1 y (by omega)
      · intro y h1 h2
        rw [mset_j (by omega)]; exact s2 y (by omega) h2
      · intro b y q
        rw [mset_k q]; exact s3 b y q
    unfold fX3_makeSecond_i76
    rw [if_neg (by rw [sI_lle (by omega) (by omega)]; omega), sI_1]
    by_cases h15 : i + 1 = 16
    · rw [if_pos (by rw [sI_lle (by omega) (by omega)]; omega)]
      refine fin 0 (by decide) ?_
      rw [if_neg (by omega)]
    · rw [if_neg (by rw [sI_lle (by omega) (by omega)]; omega), mck_s hkey (by omega), mck_s (by omega) (by omega), sI_nn (by omega), sI_nn (by omega), s2 (i + 1) (by omega) (by omega), sh_7 _ (hx' _ (by omega))]
      refine fin _ (hi7_lt _ (hx' _ (by omega))) ?_
      rw [if_pos (by omega)]
  · intro a r ⟨s1, s2, s3⟩
    show wq (fX3_makeSecond_i76 fu (sI key) r56 r (sI v2) (sI (hi7 (x 0))) (sI 16) a L) _
    have fin : ∀ (z : Nat), z = (if hi7 (x 0) = 1 then 135 else 0) → wq (fX3_makeSecond_b167 fu (sI key) r56 (sI v2) (119 + key) 15 (sI (lo7 (x 15) 0)) (sI z) a L) Q := by
      intro z hz
      unfold fX3_makeSecond_b167
      show wq (mck (sI 15) 16 _) Q
      rw [mck_s (by omega) (by omega)]
      simp only [mlet]
      rw [sI_xor, sI_1, show (15 : Int32).toNatClampNeg = 15 from by decide]
      refine hQ (mset a (119 + key) 15 (sI (lo7 (x 15) 0 ^^^ z))) ?_ ?_
      · intro i hi
        refine ⟨?_, dbS_lt hx' i hi⟩
        unfold dbS
        by_cases hi15 : i = 15
        · rw [hi15, mset_s, if_neg (by omega), hz]
        · rw [mset_j hi15, s1 i hi, if_pos (by omega), if_pos (by omega)]
      · intro b y q
        rw [mset_k q]; exact s3 b y q
    unfold fX3_makeSecond_i76
    have e15 : a (119 + key) 15 = sI (lo7 (x 15) 0) := by rw [s1 15 (by omega), if_neg (by omega)]
    rw [if_pos (by decide), mck_s hkey (by omega), sI_nn (by omega), show (15 : Int32).toNatClampNeg = 15 from by decide, e15]
    by_cases h1 : hi7 (x 0) = 1
    · rw [if_pos (by rw [h1]; rfl)]
      exact fin 135 (by rw [if_pos h1])
    · rw [if_neg (by rw [sI_eql (by omega) (by omega)]; exact h1)]
      exact fin 0 (by rw [if_neg h1])
/-- the class: what a key's last block is mixed with -/
theorem c_second {fu : Nat} {A : mwM} {L : mwL} {key : Nat} {S rk : Nat → Nat} (hf : 17 ≤ fu) (hkey : key < 17) (hS : bytes A 98 256 S) (hD : bytes A 99 256 dblN) (hk : bytes A (101 + key) 176 rk) : wq (DX3_makeSecond fu (sI key) A L) (fun q => q.2 = L ∧ bytes q.1 (119 + key) 16 (dbS (dbS (encN S dblN rk (fun _ => 0) 10))) ∧ ∀ b y, b ≠ 137 → b ≠ 138 → b ≠ 119 + key → q.1 b y = A b y) := by
  have hS' : ∀ y, y < 256 → S y < 256 := fun y hy => (hS y hy).2
  have hk' : ∀ i, i < 176 → rk i < 256 := fun i hi => (hk i hi).2
  have he := encN_lt (x := fun _ => 0) hS' dblN_lt hk' (fun _ _ => by decide) 10 (Nat.le_refl _)
  unfold DX3_makeSecond
  refine wq_for (body := fun r s => fX3_makeSecond_i2 fu (sI key) r s.1 s.2.1 s.2.2) (fun i (a : mwM) => (sI i, a, L)) (fun i a => (∀ y, y < i → a 137 y = sI 0) ∧ ∀ b y, b ≠ 137 → a b y = A b y) 16 ?_ ?_ 16 0 A fu (by omega) (by omega) ⟨fun y hy => by omega, fun _ _ _ => rfl⟩
  · intro i a r hi ⟨s1, s2⟩ ih
    show wq (fX3_makeSecond_i2 fu (sI key) r (sI i) a L) _
    unfold fX3_makeSecond_i2
    rw [if_neg (by rw [sI_lle (by omega) (by omega)]; omega), mck_s hi (by omega), sI_nn (by omega)]
    simp only [mlet]
    rw [sI_1]
    refine ih (mset a 137 i 0) ⟨?_, ?_⟩
    · intro y hy
      by_cases hyi : y = i
      · rw [hyi, mset_s]; rfl
      · rw [mset_j hyi]; exact s1 y (by omega)
    · intro b y q
      rw [mset_k q]; exact s2 b y q
  · intro a r ⟨s1, s2⟩
    show wq (fX3_makeSecond_i2 fu (sI key) r (sI 16) a L) _
    unfold fX3_makeSecond_i2
    rw [if_pos (by decide)]
    refine wq_b2 (c_encrypt (x := fun _ => 0) hf hkey (fun y hy => by rw [s2 _ _ (by decide)]; exact hS y hy) (fun y hy => by rw [s2 _ _ (by decide)]; exact hD y hy) (fun y hy => by rw [s2 _ _ (by omega)]; exact hk y hy) (fun y hy => ⟨s1 y hy, (by decide : 0 < 256)⟩)) ?_
    rintro A1 L1 ⟨hL, e1, e2⟩
    dsimp only at hL e1 e2
    subst hL
    refine wq_for (body := fun r s => fX3_makeSecond_i28 fu (sI key) r s.1 s.2.1 s.2.2) (fun i (a2 : mwM) => (sI i, a2, L1)) (fun i a2 => (∀ y, y < i → a2 (119 + key) y = sI (encN S dblN rk (fun _ => 0) 10 y)) ∧ ∀ b y, b ≠ 119 + key → a2 b y = A1 b y) 16 ?_ ?_ 16 0 A1 fu (by omega) (by omega) ⟨fun y hy => by omega, fun _ _ _ => rfl⟩
    · intro i a2 r2 hi ⟨t1, t2⟩ ih
      show wq (fX3_makeSecond_i28 fu (sI key) r2 (sI i) a2 L1) _
      unfold fX3_makeSecond_i28
      rw [if_neg (by rw [sI_lle (by omega) (by omega)]; omega), mck_s hkey (by omega), mck_s hi (by omega), mck_s hi (by omega), sI_nn (by omega), sI_nn (by omega), t2 138 _ (by omega), (e1 i hi).1]
      simp only [mlet]
      rw [sI_1]
      refine ih (mset a2 (119 + key) i (sI (encN S dblN rk (fun _ => 0) 10 i))) ⟨?_, ?_⟩
      · intro y hy
        by_cases hyi : y = i
        · rw [hyi, mset_s]
        · rw [mset_j hyi]; exact t1 y (by omega)
      · intro b y q
        rw [mset_k q]; exact t2 b y q
    · intro a2 r2 ⟨t1, t2⟩
      show wq (fX3_makeSecond_i28 fu (sI key) r2 (sI 16) a2 L1) _
      unfold fX3_makeSecond_i28
      rw [if_pos (by decide)]
      obtain ⟨g, hg⟩ : ∃ g, fu = g + 3 := ⟨fu - 3, by omega⟩
      have b0 : bytes a2 (119 + key) 16 (encN S dblN rk (fun _ => 0) 10) := fun y hy => ⟨t1 y hy, he y hy⟩
      have step : ∀ (f v : Nat) (a3 : mwM) (x : Nat → Nat) (Q : mwM × mwL → Prop), v < 2 → bytes a3 (119 + key) 16 x → (∀ A', bytes A' (119 + key) 16 (dbS x) → (∀ b y, b ≠ 119 + key → A' b y = a3 b y) → wq (fX3_makeSecond_h56 fu (sI key) f (sI (v + 1), A', L1)) Q) → wq (fX3_makeSecond_h56 fu (sI key) (f + 1) (sI v, a3, L1)) Q := by
        intro f v a3 x Q hv hb hQ
        unfold fX3_makeSecond_h56
        rw [mloop_S]
        show wq (fX3_makeSecond_i56 fu (sI key) (fX3_makeSecond_h56 fu (sI key) f) (sI v) a3 L1) Q
        unfold fX3_makeSecond_i56
        rw [if_neg (by rw [sI_lle (by omega) (by omega)]; omega), mck_s hkey (by omega), sI_nn (by omega), show (0 : Int32).toNatClampNeg = 0 from by decide, (hb 0 (by omega)).1, sh_7 _ (hb 0 (by omega)).2]
        simp only [mlet]
        exact c_shift hf hkey hb hQ
      suffices hsf : ∀ f0, f0 = g + 3 → wq (fX3_makeSecond_h56 fu (sI key) f0 (sI 0, a2, L1)) (fun q => q.2 = L1 ∧ bytes q.1 (119 + key) 16 (dbS (dbS (encN S dblN rk (fun _ => 0) 10))) ∧ ∀ b y, b ≠ 137 → b ≠ 138 → b ≠ 119 + key → q.1 b y = A b y) from hsf fu hg
      intro f0 h0
      rw [h0]
      refine step (g + 2) 0 a2 _ _ (by decide) b0 ?_
      intro A3 c1 c2
      refine step (g + 1) 1 A3 _ _ (by decide) c1 ?_
      intro A4 d1 d2
      unfold fX3_makeSecond_h56
      rw [mloop_S]
      show wq (fX3_makeSecond_i56 fu (sI key) _ (sI 2) A4 L1) _
      unfold fX3_makeSecond_i56
      rw [if_pos (by decide)]
      refine wq_some ⟨rfl, d1, ?_⟩
      intro b y q1 q2 q3
      dsimp only
      rw [d2 b y q3, c2 b y q3, t2 b y q3, e2 b y q1 q2, s2 b y q1]
