/-! TRANSFER: what both sides hold. n: numbers (0: counts, 1 controller, 2 size, 3 state, 4 begun at, 5 .. 9 receivers, 10 .. 12 frames), b: flags (0 asks, 1 gone, 2 something ended), o: octets of messages -/
def cmo (x : Nat) : Nat := if x ≤ 1 then x else x + 1
theorem cmo_1 {x : Nat} : cmo x = 1 ↔ x = 1 := by
  unfold cmo
  split <;> omega
theorem cmo_le {x : Nat} (h : x ≤ 3) : cmo x ≤ 4 := by
  unfold cmo
  split <;> omega
def TfC (A : mwM) (n : Nat → Nat → Nat) (b : Nat → Nat → Bool) (o : Nat → Nat → Nat) : Prop :=
  (A 154 5 = sI (n 0 0) ∧ A 154 6 = sI (n 0 1) ∧ A 154 7 = sI (n 0 2) ∧ A 154 8 = sI (n 0 4) ∧ A 154 9 = sI (n 0 3) ∧ A 154 10 = bI (b 2 0)) ∧
  (∀ m, 1 ≤ m → m ≤ n 0 0 → A 156 m = sI (n 1 m) ∧ A 157 m = bI (b 0 m) ∧ A 158 m = sI (n 2 m) ∧ A 159 m = sI (n 3 m) ∧ (n 3 m ≠ 0 → A 160 m = sI (n 4 m)) ∧ ∀ i, i < n 2 m → A (162 + m) i = sI (o m i)) ∧
  (∀ r, r < 4 → A 264 r = sI (cmo (n 5 r)) ∧ (n 5 r = 1 → A 265 r = sI (n 6 r) ∧ A 266 r = sI (n 7 r) ∧ A 267 r = sI (n 8 r) ∧ A 268 r = sI (n 9 r))) ∧
  ∀ f, f < n 0 1 → A 270 f = sI (n 10 f) ∧ A 271 f = sI (n 11 f) ∧ A 272 f = sI (n 12 f) ∧ A 273 f = bI (b 1 f)
/-- how many frames a message may have had made -/
def csN (s : Nat) : Nat := (s - 6 + 6) / 7
def cbF (n : Nat → Nat → Nat) (b : Nat → Nat → Bool) (m : Nat) : Nat := (if n 3 m = 0 then 0 else 1) + (if b 3 m = true then 1 else 0) + (if n 3 m = 3 ∧ 8 ≤ n 2 m then csN (n 2 m) else 0)
def suN (g : Nat → Nat) : Nat → Nat
  | 0 => 0
  | m + 1 => suN g m + g (m + 1)
theorem su_le {g h : Nat → Nat} : ∀ k, (∀ m, 1 ≤ m → m ≤ k → g m ≤ h m) → suN g k ≤ suN h k := by
  intro k
  induction k with
  | zero => intro _; exact Nat.le_refl _
  | succ k ih =>
    intro hh
    have h1 := ih (fun m u1 u2 => hh m u1 (by omega))
    have h2 := hh (k + 1) (by omega) (Nat.le_refl _)
    show suN g k + g (k + 1) ≤ suN h k + h (k + 1)
    omega
theorem su_c {c : Nat} : ∀ k, suN (fun _ => c) k = c * k := by
  intro k
  induction k with
  | zero => rfl
  | succ k ih =>
    show suN (fun _ => c) k + c = c * (k + 1)
    rw [ih, Nat.mul_succ]
/-- one summand grows -/
theorem su_1 {g h : Nat → Nat} {j d : Nat} : ∀ k, 1 ≤ j → j ≤ k → (∀ m, 1 ≤ m → m ≤ k → m ≠ j → h m = g m) → h j = g j + d → suN h k = suN g k + d := by
  intro k
  induction k with
  | zero => intro h1 h2; omega
  | succ k ih =>
    intro h1 h2 h3 h4
    show suN h k + h (k + 1) = suN g k + g (k + 1) + d
    by_cases hq : j = k + 1
    · subst hq
      have : suN h k = suN g k := by
        clear ih h2 h4
        have : ∀ i, i ≤ k → suN h i = suN g i := by
          intro i
          induction i with
          | zero => intro _; rfl
          | succ i ih2 =>
            intro hi
            show suN h i + h (i + 1) = suN g i + g (i + 1)
            rw [ih2 (by omega), h3 (i + 1) (by omega) (by omega) (by omega)]
        exact this k (Nat.le_refl _)
      omega
    · have := ih h1 (by omega) (fun m u1 u2 u3 => h3 m u1 (by omega) u3) h4
      have h5 := h3 (k + 1) (by omega) (Nat.le_refl _) (by omega)
      omega
def TfV (n : Nat → Nat → Nat) (b : Nat → Nat → Bool) : Prop :=
  (n 0 0 ≤ 100 ∧ n 0 2 ≤ n 0 1 ∧ n 0 3 ≤ 20000 ∧ n 0 4 ≤ n 0 0 ∧ n 0 1 ≤ suN (cbF n b) (n 0 0)) ∧
  (∀ m, 1 ≤ m → m ≤ n 0 0 → n 1 m < 6 ∧ 1 ≤ n 2 m ∧ n 2 m ≤ 100 ∧ n 3 m ≤ 4 ∧ n 4 m ≤ n 0 3 ∧ (n 3 m = 1 ∨ n 3 m = 2 → 8 ≤ n 2 m) ∧ (m ≤ n 0 4 → 3 ≤ n 3 m) ∧ (b 3 m = true → n 3 m ≠ 0)) ∧
  (∀ r, r < 4 → n 5 r ≤ 3 ∧ (n 5 r = 1 → 1 ≤ n 6 r ∧ n 6 r ≤ n 0 0 ∧ n 6 r % 4 = r ∧ 1 ≤ n 8 r ∧ n 8 r ≤ 15 ∧ n 7 r = 6 + 7 * (n 8 r - 1) ∧ n 7 r < n 2 (n 6 r) ∧ n 9 r ≤ n 0 3)) ∧
  ∀ f, f < n 0 1 → n 10 f ≤ 3 ∧ 1 ≤ n 11 f ∧ n 11 f ≤ n 0 0 ∧ n 3 (n 11 f) ≠ 0 ∧ (n 10 f = 0 → n 2 (n 11 f) ≤ 7) ∧ (n 10 f ≠ 0 → 8 ≤ n 2 (n 11 f)) ∧ (n 10 f = 2 → 1 ≤ n 12 f ∧ 6 + 7 * (n 12 f - 1) < n 2 (n 11 f)) ∧ (n 10 f ≠ 2 → n 12 f = 0) ∧ (n 10 f = 1 → (b 1 f = false → b 3 (n 11 f) = false) ∧ ∀ f', f' < n 0 1 → n 10 f' = 1 → n 11 f' = n 11 f → f' = f)
theorem cs_le {s : Nat} (h : s ≤ 100) : csN s ≤ 14 := by
  unfold csN
  omega
theorem cb_le {n : Nat → Nat → Nat} {b : Nat → Nat → Bool} {m : Nat} (h : n 2 m ≤ 100) : cbF n b m ≤ 16 := by
  have := cs_le h
  unfold cbF
  split <;> split <;> split <;> omega
theorem Tf_F {n : Nat → Nat → Nat} {b : Nat → Nat → Bool} (h : TfV n b) : n 0 1 ≤ 1600 := by
  have h1 := h.1.2.2.2.2
  have h2 := su_le (g := cbF n b) (h := fun _ => 16) (n 0 0) (fun m u1 u2 => cb_le (h.2.1 m u1 u2).2.2.1)
  rw [su_c] at h2
  have := h.1.1
  omega
/-- a frame is made -/
def mkN (n : Nat → Nat → Nat) (kd m sq : Nat) : Nat → Nat → Nat := mset (mset (mset (mset n 10 (n 0 1) kd) 11 (n 0 1) m) 12 (n 0 1) sq) 0 1 (n 0 1 + 1)
def mkB (n : Nat → Nat → Nat) (b : Nat → Nat → Bool) : Nat → Nat → Bool := mset b 1 (n 0 1) false
theorem c_makeFrame {fu kd m sq : Nat} {A : mwM} {L : mwL} {n : Nat → Nat → Nat} {b : Nat → Nat → Bool} {o : Nat → Nat → Nat} (h : TfC A n b o) (hK : n 0 0 ≤ 100) (hF : n 0 1 < 1600) : wq (DX9_makeFrame fu (sI kd) (sI m) (sI sq) A L) (fun z => z.2 = L ∧ TfC z.1 (mkN n kd m sq) (mkB n b) o ∧ ∀ a y, ¬ (270 ≤ a ∧ a ≤ 273) → ¬ (a = 154 ∧ y = 6) → z.1 a y = A a y) := by
  obtain ⟨⟨h1, h2, h3, h4, h5, h6⟩, hm, hr, hfr⟩ := h
  unfold DX9_makeFrame
  simp (disch := omega) only [h2, mset_n, mck_s, sI_nn, nn_s, sI_lt, sI_le, sI_eq, sI_ltl, sI_lel, sI_eql, sI_llt, sI_lle, sI_1, bI_0, bI_1, bI_n, mlet, mb3_s, mb2_s]
  rw [if_pos (by omega)]
  refine wq_some ⟨rfl, ?_, fun a y u1 u2 => ?_⟩
  all_goals (try dsimp only)
  · unfold TfC mkN mkB
    refine ⟨?_, ?_, ?_, ?_⟩
    · simp (disch := omega) only [mset_n, mset_s]
      exact ⟨h1, trivial, h3, h4, h5, h6⟩
    · intro j u1 u2
      simp (disch := omega) only [mset_n] at u2
      simp (disch := omega) only [mset_n]
      exact hm j u1 u2
    · intro r u
      simp (disch := omega) only [mset_n]
      exact hr r u
    · intro f u
      rw [mset_s] at u
      by_cases hq : f = n 0 1
      · subst hq
        simp (disch := omega) only [mset_n, mset_s, true_and, and_true]
        rfl
      · simp (disch := omega) only [mset_n]
        exact hfr f (by omega)
  · simp (disch := omega) only [mset_n]
/-! a message begins -/
def bgN (n : Nat → Nat → Nat) (m : Nat) : Nat → Nat → Nat := mset (mset (mkN n (if n 2 m ≤ 7 then 0 else 1) m 0) 3 m (if n 2 m ≤ 7 then 3 else 1)) 4 m (n 0 3)
theorem c_begin9 {fu m : Nat} {A : mwM} {L : mwL} {n : Nat → Nat → Nat} {b : Nat → Nat → Bool} {o : Nat → Nat → Nat} (h : TfC A n b o) (hK : n 0 0 ≤ 100) (hF : n 0 1 < 1600) (hm : 1 ≤ m ∧ m ≤ n 0 0) (hs : n 2 m ≤ 100) : wq (DX9_begin fu (sI m) A L) (fun z => z.2 = L ∧ TfC z.1 (bgN n m) (mkB n b) o ∧ ∀ a y, ¬ (270 ≤ a ∧ a ≤ 273) → ¬ (a = 154 ∧ y = 6) → a ≠ 159 → a ≠ 160 → z.1 a y = A a y) := by
  have e158 := (h.2.1 m hm.1 hm.2).2.2.1
  -- behind the frame
  have fin : ∀ (kd st : Nat) (v : Int32), kd = (if n 2 m ≤ 7 then 0 else 1) → st = (if n 2 m ≤ 7 then 3 else 1) → v = bI (decide (n 2 m ≤ 7)) → wq (fX9_begin_b29 fu (sI m) v (sI kd) A L) (fun z => z.2 = L ∧ TfC z.1 (bgN n m) (mkB n b) o ∧ ∀ a y, ¬ (270 ≤ a ∧ a ≤ 273) → ¬ (a = 154 ∧ y = 6) → a ≠ 159 → a ≠ 160 → z.1 a y = A a y) := by
    intro kd st v hkd hst hv
    unfold fX9_begin_b29
    refine wq_b2 (show wq (DX9_makeFrame fu (sI kd) (sI m) 0 A L) _ from c_makeFrame (sq := 0) h hK hF) ?_
    rintro M1 L1 ⟨y1, y2, y3⟩
    dsimp only at y1 y2 y3
    subst y1
    have e9 : M1 154 9 = sI (n 0 3) := (y3 _ _ (by omega) (by omega)).trans h.1.2.2.2.2.1
    have b50 : ∀ s : Int32, s = sI st → wq (fX9_begin_b50 fu (sI m) s M1 L1) (fun z => z.2 = L1 ∧ TfC z.1 (bgN n m) (mkB n b) o ∧ ∀ a y, ¬ (270 ≤ a ∧ a ≤ 273) → ¬ (a = 154 ∧ y = 6) → a ≠ 159 → a ≠ 160 → z.1 a y = A a y) := by
      intro s hs2
      unfold fX9_begin_b50
      simp (disch := omega) only [e9, mset_n, mck_s, sI_nn, nn_s, sI_lt, sI_le, sI_eq, sI_ltl, sI_lel, sI_eql, sI_llt, sI_lle, sI_1, bI_0, bI_1, bI_n, mlet, mb3_s, mb2_s]
      refine wq_some ⟨rfl, ?_, fun a y u1 u2 u3 u4 => ?_⟩
      all_goals (try dsimp only)
      · obtain ⟨k1, k2, k3, k4⟩ := y2
        have c0 : ∀ j, bgN n m 0 j = mkN n kd m 0 0 j := by
          intro j
          unfold bgN
          simp (disch := omega) only [mset_n]
          rw [← hkd]
        have cr : ∀ i j, i ≠ 3 → i ≠ 4 → bgN n m i j = mkN n kd m 0 i j := by
          intro i j u1 u2
          unfold bgN
          simp (disch := omega) only [mset_n]
          rw [← hkd]
        have e3 : ∀ j, bgN n m 3 j = if j = m then st else mkN n kd m 0 3 j := by
          intro j
          unfold bgN
          by_cases hq : j = m
          · subst hq
            rw [mset_n (by omega), mset_s, if_pos rfl, hst]
          · rw [mset_n (by omega), mset_n (by omega), if_neg hq, ← hkd]
        have e4 : ∀ j, bgN n m 4 j = if j = m then n 0 3 else mkN n kd m 0 4 j := by
          intro j
          unfold bgN
          by_cases hq : j = m
          · subst hq
            rw [mset_s, if_pos rfl]
          · rw [mset_n (by omega), mset_n (by omega), if_neg hq, ← hkd]
        have K1 : mkN n kd m 0 0 0 = n 0 0 := by unfold mkN; simp (disch := omega) only [mset_n]
        refine ⟨?_, ?_, ?_, ?_⟩
        · rw [c0, c0, c0, c0, c0]
          simp (disch := omega) only [mset_n]
          exact k1
        · intro j u1 u2
          rw [c0] at u2
          have := k2 j u1 u2
          rw [K1] at u2
          rw [cr 1 j (by omega) (by omega), cr 2 j (by omega) (by omega), e3, e4]
          simp (disch := omega) only [mset_n]
          refine ⟨this.1, this.2.1, this.2.2.1, ?_, ?_, this.2.2.2.2.2⟩
          · by_cases hq : j = m
            · subst hq
              rw [mset_s, if_pos rfl, hs2]
            · rw [mset_j hq, if_neg hq]; exact this.2.2.2.1
          · by_cases hq : j = m
            · subst hq
              intro _
              rw [mset_s, if_pos rfl]
            · rw [mset_j hq, if_neg hq, if_neg hq]; exact this.2.2.2.2.1
        · intro r u
          rw [cr 5 r (by omega) (by omega), cr 6 r (by omega) (by omega), cr 7 r (by omega) (by omega), cr 8 r (by omega) (by omega), cr 9 r (by omega) (by omega)]
          simp (disch := omega) only [mset_n]
          exact k3 r u
        · intro f u
          rw [c0] at u
          rw [cr 10 f (by omega) (by omega), cr 11 f (by omega) (by omega), cr 12 f (by omega) (by omega)]
          simp (disch := omega) only [mset_n]
          exact k4 f u
      · simp (disch := omega) only [mset_n]
        exact y3 a y u1 u2
    by_cases h7 : n 2 m ≤ 7
    · rw [hv, decide_eq_true h7, if_neg (by decide)]
      exact b50 3 (by rw [hst, if_pos h7]; rfl)
    · rw [hv, decide_eq_false h7, if_pos bI_f]
      exact b50 1 (by rw [hst, if_neg h7]; rfl)
  unfold DX9_begin fX9_begin_b18
  simp (disch := omega) only [e158, mck_s, sI_nn, nn_s, sI_lt, sI_le, sI_eq, sI_ltl, sI_lel, sI_eql, sI_llt, sI_lle, sI_1, bI_0, bI_1, bI_n, mlet, mb3_s, mb2_s]
  by_cases h7 : n 2 m ≤ 7
  · rw [if_neg (by omega), if_neg (by decide)]
    exact fin 0 3 1 (by rw [if_pos h7]) (by rw [if_pos h7]) (by rw [decide_eq_true h7]; rfl)
  · rw [if_pos (by omega), if_pos trivial]
    exact fin 1 1 0 (by rw [if_neg h7]) (by rw [if_neg h7]) (by rw [decide_eq_false h7]; rfl)
