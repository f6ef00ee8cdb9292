/-! the class: a frame's octets; it is lost; all begins anew -/
def frO (kd sq : Nat) : Nat := if kd = 2 then 6 + 7 * (sq - 1) else 0
def moO (kd : Nat) : Nat := if kd = 3 then 0 else if kd = 1 then 6 else 7
def wrO (n o : Nat → Nat → Nat) (f : Nat) : Nat → Nat
  | 0 => 16 * n 10 f + (if n 10 f = 1 then n 2 (n 11 f) else n 12 f) % 16
  | i + 1 => if i < moO (n 10 f) ∧ frO (n 10 f) (n 12 f) + i < n 2 (n 11 f) then o (n 11 f) (frO (n 10 f) (n 12 f) + i) else 0
theorem and15 : ∀ x, x < 128 → sI x &&& 15 = sI (x % 16) := by decide +kernel
theorem c_writeOctets {fu f : Nat} {A : mwM} {L : mwL} {n : Nat → Nat → Nat} {b : Nat → Nat → Bool} {o : Nat → Nat → Nat} (hfu : 10 ≤ fu) (hv : TfV n b) (h : TfC A n b o) (hf : f < n 0 1) : wq (DX9_writeOctets fu (sI f) A L) (fun z => z.2 = L ∧ (∀ i, i < 8 → z.1 274 i = sI (wrO n o f i)) ∧ ∀ x y, x ≠ 274 → z.1 x y = A x y) := by
  have hF := Tf_F hv
  have hg := hv.2.2.2 f hf
  have hK := hv.1.1
  obtain ⟨e0, e1, e2, _⟩ := h.2.2.2 f hf
  generalize hm : n 11 f = m at *
  have hM := hv.2.1 m hg.2.1 hg.2.2.1
  obtain ⟨_, _, e158, _, _, eo⟩ := h.2.1 m hg.2.1 hg.2.2.1
  generalize hk : n 10 f = kd at *
  generalize hs : n 12 f = sq at *
  have hsq : sq ≤ 14 := by
    by_cases k2 : kd = 2
    · have := hg.2.2.2.2.2.2.1 k2
      omega
    · have := hg.2.2.2.2.2.2.2.1 k2
      omega
  have w0 : wrO n o f 0 = 16 * kd + (if kd = 1 then n 2 m else sq) % 16 := by
    unfold wrO
    rw [hk, hm, hs]
  have wi : ∀ i, wrO n o f (i + 1) = if i < moO kd ∧ frO kd sq + i < n 2 m then o m (frO kd sq + i) else 0 := by
    intro i
    show (if i < moO (n 10 f) ∧ frO (n 10 f) (n 12 f) + i < n 2 (n 11 f) then o (n 11 f) (frO (n 10 f) (n 12 f) + i) else 0) = _
    rw [hk, hm, hs]
  have hmo : moO kd ≤ 7 := by
    unfold moO
    split
    · omega
    · split <;> omega
  have hfr : frO kd sq ≤ 100 := by
    unfold frO
    split <;> omega
  -- the octets behind the first
  have loop : ∀ low, low < 128 → low = (if kd = 1 then n 2 m else sq) → wq (fX9_writeOctets_b92 fu (sI f) (sI m) (sI kd) (sI low) (sI (frO kd sq)) (sI (moO kd)) A L) (fun z => z.2 = L ∧ (∀ i, i < 8 → z.1 274 i = sI (wrO n o f i)) ∧ ∀ x y, x ≠ 274 → z.1 x y = A x y) := by
    intro low hl el
    unfold fX9_writeOctets_b92
    rw [and15 low hl, show (16 : Int32) * sI kd = sI (16 * kd) from sI_lml, sI_add]
    simp only [mlet]
    refine wq_for (body := fun r z => fX9_writeOctets_i113 fu (sI f) r z.1 z.2.1 z.2.2.1 z.2.2.2.1 z.2.2.2.2.1 z.2.2.2.2.2) (fun i (w : mwM) => (sI m, sI (frO kd sq), sI (moO kd), sI i, w, L)) (fun i w => (∀ j, j < i + 1 → w 274 j = sI (wrO n o f j)) ∧ ∀ x y, x ≠ 274 → w x y = A x y) 7 ?_ ?_ 7 0 _ fu (by omega) (by omega) ⟨fun j u => ?_, fun x y u => mset_n (by omega)⟩
    · intro i w r hi ⟨q1, q2⟩ ih
      show wq (fX9_writeOctets_i113 fu (sI f) r (sI m) (sI (frO kd sq)) (sI (moO kd)) (sI i) w L) _
      have put : ∀ x : Nat, x = wrO n o f (i + 1) → wq (fX9_writeOctets_b184 fu (sI f) r (sI m) (sI (frO kd sq)) (sI (moO kd)) (sI i) (1 + sI i) (sI x) w L) (fun z => z.2 = L ∧ (∀ i, i < 8 → z.1 274 i = sI (wrO n o f i)) ∧ ∀ x y, x ≠ 274 → z.1 x y = A x y) := by
        intro x hx
        unfold fX9_writeOctets_b184
        rw [show (1 : Int32) + sI i = sI (1 + i) from sI_lad, mck_s (by omega) (by omega), sI_nn (by omega), sI_1]
        simp only [mlet]
        refine ih _ ⟨fun j u => ?_, fun x y u => by rw [mset_n (by omega)]; exact q2 x y u⟩
        by_cases hq : j = 1 + i
        · rw [hq, mset_s, hx, Nat.add_comm]
        · rw [mset_j hq]; exact q1 j (by omega)
      unfold fX9_writeOctets_i113 fX9_writeOctets_b152 fX9_writeOctets_b153
      rw [if_neg (by rw [sI_lle (by decide) (by omega)]; omega), if_pos (show (0 : Int32) = 0 from rfl), if_neg (show ¬ (1 : Int32) = 0 by decide), q2 158 _ (by omega), sI_add, mck_s (show m < 101 by omega) (by omega), mck_s (show m < 101 by omega) (by omega)]
      by_cases a1 : i < moO kd
      · rw [if_neg (by rw [sI_le (by omega) (by omega)]; omega), if_neg (by rw [sI_ltl (by omega) (by decide)]; omega), sI_nn (by omega), e158]
        by_cases a2 : frO kd sq + i < n 2 m
        · rw [if_neg (by rw [sI_le (by omega) (by omega)]; omega), mck_s (by have := hM.2.2.1; omega) (by omega), sI_nn (by omega), q2 _ _ (by omega), eo _ a2]
          exact put _ (by rw [wi, if_pos ⟨a1, a2⟩])
        · rw [if_pos (by rw [sI_le (by omega) (by omega)]; omega)]
          exact put 0 (by rw [wi, if_neg (fun z => a2 z.2)])
      · rw [if_pos (by rw [sI_le (by omega) (by omega)]; omega)]
        exact put 0 (by rw [wi, if_neg (fun z => a1 z.1)])
    · intro w r ⟨q1, q2⟩
      show wq (fX9_writeOctets_i113 fu (sI f) r (sI m) (sI (frO kd sq)) (sI (moO kd)) (sI 7) w L) _
      unfold fX9_writeOctets_i113
      rw [if_pos (by decide)]
      exact wq_some ⟨rfl, fun i u => q1 i (by omega), q2⟩
    · have : j = 0 := by omega
      subst this
      show mset A 274 0 _ 274 0 = _
      rw [mset_s, w0, el]
  -- how many, and from where
  have b69 : ∀ low, low < 128 → low = (if kd = 1 then n 2 m else sq) → wq (fX9_writeOctets_b69 fu (sI f) (sI m) (sI kd) (sI low) (sI (frO kd sq)) A L) (fun z => z.2 = L ∧ (∀ i, i < 8 → z.1 274 i = sI (wrO n o f i)) ∧ ∀ x y, x ≠ 274 → z.1 x y = A x y) := by
    intro low hl el
    have lp := loop low hl el
    unfold fX9_writeOctets_b69
    by_cases k3 : kd = 3
    · rw [if_pos (by rw [k3]; rfl)]
      have : moO kd = 0 := by unfold moO; rw [if_pos k3]
      rw [this] at lp
      exact lp
    · rw [if_neg (by rw [sI_eql (by omega) (by decide)]; exact k3)]
      by_cases k1 : kd = 1
      · rw [if_pos (by rw [k1]; rfl)]
        have : moO kd = 6 := by unfold moO; rw [if_neg k3, if_pos k1]
        rw [this] at lp
        exact lp
      · rw [if_neg (by rw [sI_eql (by omega) (by decide)]; exact k1)]
        have : moO kd = 7 := by unfold moO; rw [if_neg k3, if_neg k1]
        rw [this] at lp
        exact lp
  have b42 : ∀ low, low < 128 → low = (if kd = 1 then n 2 m else sq) → wq (fX9_writeOctets_b42 fu (sI f) (sI m) (sI kd) (sI low) A L) (fun z => z.2 = L ∧ (∀ i, i < 8 → z.1 274 i = sI (wrO n o f i)) ∧ ∀ x y, x ≠ 274 → z.1 x y = A x y) := by
    intro low hl el
    have lp := b69 low hl el
    unfold fX9_writeOctets_b42
    by_cases k2 : kd = 2
    · have h1 := hg.2.2.2.2.2.2.1 k2
      have e : frO kd sq = 6 + 7 * (sq - 1) := by unfold frO; rw [if_pos k2]
      rw [if_pos (by rw [k2]; rfl), mck_s (by omega) (by omega), sI_nn (by omega), e2, show sI sq - 1 = sI (sq - 1) from sI_sub (b := 1) (by omega), show (7 : Int32) * sI (sq - 1) = sI (7 * (sq - 1)) from sI_lml, show (6 : Int32) + sI (7 * (sq - 1)) = sI (6 + 7 * (sq - 1)) from sI_lad, ← e]
      exact lp
    · rw [if_neg (by rw [sI_eql (by omega) (by decide)]; exact k2)]
      have e : frO kd sq = 0 := by unfold frO; rw [if_neg k2]
      rw [e] at lp
      exact lp
  have h100 := hM.2.2.1
  unfold DX9_writeOctets
  simp only [mlet]
  rw [mck_s (by omega) (by omega), sI_nn (by omega), e1, mck_s (by omega) (by omega), e0]
  by_cases k1 : kd = 1
  · rw [if_pos (by rw [k1]; rfl), mck_s (by omega) (by omega), sI_nn (by omega), e158]
    exact b42 (n 2 m) (by omega) (by rw [if_pos k1])
  · rw [if_neg (by rw [sI_eql (by omega) (by decide)]; exact k1), mck_s (by omega) (by omega), e2]
    exact b42 sq (by omega) (by rw [if_neg k1])
theorem c_lose {fu f : Nat} {A : mwM} {L : mwL} {p : PB} {o : Nat → Nat → Nat} (hv : TfV p.1 p.2) (h : TfC A p.1 p.2 o) (hf : f < p.1 0 1) : wq (DX9_lose fu (sI f) A L) (fun z => z.2 = L ∧ TfC z.1 p.1 (mset p.2 1 f true) o ∧ ∀ x y, ¬ (x = 273 ∧ y = f) → z.1 x y = A x y) := by
  have hF := Tf_F hv
  unfold DX9_lose
  rw [mck_s (by omega) (by omega), sI_nn (by omega)]
  simp only [mlet]
  refine wq_some ⟨rfl, ?_, fun x y u => mset_n u⟩
  dsimp only
  refine TfC_ch h hv.1.1 (fun a y u => by simp (disch := omega) only [mset_n]) (fun _ _ _ _ => rfl) (fun j => mset_n (by omega)) ?_ (fun j u v => ?_) (fun _ z => z) (fun r u => ?_) (fun g u => ?_)
  · simp (disch := omega) only [mset_n]
    exact h.1.2.2.2.2.2
  · simp (disch := omega) only [mset_n]
    exact TfC_st2 h j u v
  · simp (disch := omega) only [mset_n]
    exact h.2.2.1 r u
  · by_cases hq : g = f
    · rw [hq, mset_s, mset_s]; rfl
    · rw [mset_j hq, mset_j hq]
      exact TfC_gn h g u
def tn0 : Nat → Nat → Nat := fun _ _ => 0
def tb0 : Nat → Nat → Bool := fun _ _ => false
theorem V_00 : TfV tn0 tb0 := by
  refine ⟨⟨by decide, by decide, by decide, by decide, by decide⟩, fun m u1 u2 => ?_, fun r _ => ⟨Nat.zero_le 3, fun z => ?_⟩, fun f u => ?_⟩
  · have : m ≤ 0 := u2
    omega
  · have : (0 : Nat) = 1 := z
    omega
  · have : f < 0 := u
    omega
theorem c_clear9 {fu : Nat} {A : mwM} {L : mwL} {o : Nat → Nat → Nat} (hfu : 10 ≤ fu) : wq (DX9_clear fu A L) (fun z => z.2 = L ∧ TfC z.1 tn0 tb0 o ∧ ∀ x y, ¬ (x = 154 ∨ x = 264) → z.1 x y = A x y) := by
  unfold DX9_clear
  simp only [mlet]
  refine wq_for (body := fun r z => fX9_clear_i32 fu r z.1 z.2.1 z.2.2) (fun i (w : mwM) => (sI i, w, L)) (fun i w => (∀ j, j < i → w 264 j = 0) ∧ (w 154 5 = 0 ∧ w 154 6 = 0 ∧ w 154 7 = 0 ∧ w 154 8 = 0 ∧ w 154 9 = 0 ∧ w 154 10 = 0) ∧ ∀ x y, ¬ (x = 154 ∨ x = 264) → w x y = A x y) 4 ?_ ?_ 4 0 _ fu (by omega) (by omega) ⟨fun j u => by omega, ?_, fun x y u => ?_⟩
  · intro i w r hi ⟨q1, q2, q3⟩ ih
    show wq (fX9_clear_i32 fu r (sI i) w L) _
    unfold fX9_clear_i32
    rw [if_neg (by rw [sI_lle (by decide) (by omega)]; omega), mck_s (by omega) (by omega), sI_nn (by omega)]
    simp only [mlet]
    rw [sI_1]
    refine ih _ ⟨fun j u => ?_, ?_, fun x y u => by rw [mset_n (by omega)]; exact q3 x y u⟩
    · by_cases hq : j = i
      · rw [hq, mset_s]
      · rw [mset_j hq]; exact q1 j (by omega)
    · simp (disch := omega) only [mset_n]
      exact q2
  · intro w r ⟨q1, q2, q3⟩
    show wq (fX9_clear_i32 fu r (sI 4) w L) _
    unfold fX9_clear_i32
    rw [if_pos (by decide)]
    refine wq_some ⟨rfl, ⟨q2, fun m u1 u2 => ?_, fun r u => ⟨q1 r u, fun z => ?_⟩, fun f u => ?_⟩, q3⟩
    · have : m ≤ 0 := u2
      omega
    · have : (0 : Nat) = 1 := z
      omega
    · have : f < 0 := u
      omega
  · simp (disch := omega) only [mset_n, mset_s, and_self]
  · simp (disch := omega) only [mset_n]
