/-! the reference writes a frame -/
def kdn (n i : Nat) : Int32 := sI n - 1 - sI i
theorem kdn_1 {n i : Nat} (hi : i < n) : kdn n i = sI (n - 1 - i) := by
  unfold kdn
  rw [show sI n - 1 = sI (n - 1) from sI_sub (b := 1) (by omega), sI_sub (by omega)]
theorem kdn_n (n : Nat) : kdn (n + 1) n + (-1) = -1 := by
  unfold kdn
  rw [show sI (n + 1) - 1 = sI n from sI_m1, show sI n - sI n = sI 0 by rw [sI_sub (Nat.le_refl n), Nat.sub_self]]
  rfl
/-- v's lowest n bits, the highest first -/
theorem m_bits {fu v n P : Nat} {M : mwM} {L : mwL} (hfu : n < fu) (hn : n ≤ 31) (hn1 : 1 ≤ n) (hv : v < 2000000000) (hP : M 821 34 = sI P) (hPl : P + n ≤ 700) : wq (DX12_bits fu (sI v) (sI n) M L) (fun z => z.2 = L ∧ z.1 821 34 = sI (P + n) ∧ (∀ i, i < n → z.1 848 (P + i) = sI (v / 2 ^ (n - 1 - i) % 2)) ∧ ∀ a y, ¬ (a = 821 ∧ y = 34) → ¬ (a = 848 ∧ P ≤ y) → z.1 a y = M a y) := by
  unfold DX12_bits
  simp only [mlet]
  have st0 : sI n - 1 = (if 0 < n then sI (n - 1 - 0) else -1) := by
    rw [if_pos (by omega), Nat.sub_zero]
    exact sI_sub (b := 1) (by omega)
  rw [st0]
  refine wq_for (body := fun r z => fX12_bits_i4 fu (sI v) (sI n) r z.1 z.2.1 z.2.2) (fun j (x : mwM) => ((if j < n then sI (n - 1 - j) else -1), x, L)) (fun j x => x 821 34 = sI (P + j) ∧ (∀ i, i < j → x 848 (P + i) = sI (v / 2 ^ (n - 1 - i) % 2)) ∧ ∀ a y, ¬ (a = 821 ∧ y = 34) → ¬ (a = 848 ∧ P ≤ y) → x a y = M a y) n ?_ ?_ n 0 M fu (by omega) (by omega) ⟨hP, fun i u => by omega, fun _ _ _ _ => rfl⟩
  · intro j x r hj ⟨x1, x2, x3⟩ ih
    show wq (fX12_bits_i4 fu (sI v) (sI n) r (if j < n then sI (n - 1 - j) else -1) x L) _
    unfold fX12_bits_i4
    rw [if_pos hj, if_neg (show ¬ sI (n - 1 - j) < 0 by rw [sI_ltl (by omega) (by decide)]; omega), x1, mck_s (by omega) (by omega), sI_nn (by omega), bitx hv (by omega), nb2 _ (Nat.mod_lt _ (by decide))]
    simp only [mlet]
    rw [mset_n (show ¬ (821 = 848 ∧ 34 = P + j) by omega), x1, sI_1]
    have e : sI (n - 1 - j) + (-1) = (if j + 1 < n then sI (n - 1 - (j + 1)) else -1) := by
      by_cases c : j + 1 < n
      · rw [if_pos c, show n - 1 - j = (n - 1 - (j + 1)) + 1 by omega]
        exact sI_pm
      · rw [if_neg c, show n - 1 - j = 0 by omega]
        rfl
    rw [e]
    refine ih _ ⟨mset_s, fun i u => ?_, fun a y u1 u2 => ?_⟩
    · rw [mset_n (by omega)]
      by_cases q : i = j
      · rw [q, mset_s]
      · rw [mset_n (by omega)]
        exact x2 i (by omega)
    · rw [mset_n (by omega), mset_n (by omega)]
      exact x3 a y u1 u2
  · intro x r ⟨x1, x2, x3⟩
    show wq (fX12_bits_i4 fu (sI v) (sI n) r (if n < n then sI (n - 1 - n) else -1) x L) _
    unfold fX12_bits_i4
    rw [if_neg (Nat.lt_irrefl n), if_pos (show (-1 : Int32) < 0 by decide)]
    exact wq_some ⟨rfl, x1, x2, x3⟩
def FrM1 (M : mwM) (f id : Nat) (oc : Nat → Nat) : Prop := M 824 f = sI id ∧ M 825 f = 0 ∧ M 826 f = 8 ∧ ∀ i, i < 8 → M 827 (64 * f + i) = sI (oc i) ∧ oc i < 256
theorem pb_8 : ∀ i, i < 4 → (8 : Nat) / 2 ^ (4 - 1 - i) % 2 = if i = 0 then 1 else 0 := by decide
theorem m_writePlain {fu f id : Nat} {oc : Nat → Nat} {M : mwM} {L : mwL} (hfu : 200 ≤ fu) (hf : f < 200) (hid : id < 2048) (hF : FrM1 M f id oc) : wq (DX12_writePlain fu (sI f) M L) (fun z => z.2 = L ∧ z.1 821 34 = sI 83 ∧ (∀ i, i < 83 → z.1 848 i = sI (pbF id oc i)) ∧ z.1 821 48 = -1 ∧ ∀ a y, ¬ (a = 821 ∧ (y = 34 ∨ y = 48)) → a ≠ 848 → z.1 a y = M a y) := by
  obtain ⟨h824, h825, h826, h827⟩ := hF
  unfold DX12_writePlain fX12_writePlain_b22 fX12_writePlain_b48 fX12_writePlain_b64
  simp only [mlet]
  simp (disch := omega) only [mck_s, sI_nn, mset_n, h825]
  simp (decide := true) only [ite_true, ite_false]
  have p34 : (mset (mset M 821 48 (-1)) 821 34 0) 821 34 = sI 0 := by rw [mset_s]; rfl
  -- 1
  have B1 := m_bits (fu := fu) (v := 0) (n := 1) (P := 0) (M := mset (mset M 821 48 (-1)) 821 34 0) (L := L) (by omega) (by omega) (by omega) (by omega) p34 (by omega)
  refine wq_b2 B1 ?_
  rintro M1 L1 ⟨a1, a2, a3, a4⟩
  dsimp only at a1 a2 a3 a4
  subst a1
  unfold fX12_writePlain_b100
  simp (decide := true) only [ite_true, ite_false]
  have r824 : M1 824 f = sI id := by rw [a4 824 f (by omega) (by omega), mset_n (by omega), mset_n (by omega)]; exact h824
  rw [r824]
  refine wq_b2 (m_bits (v := id) (n := 11) (P := 1) (L := L1) (by omega) (by omega) (by omega) (by omega) a2 (by omega)) ?_
  rintro M2 L2 ⟨b1, b2, b3, b4⟩
  dsimp only at b1 b2 b3 b4
  subst b1
  refine wq_b2 (m_bits (v := 0) (n := 1) (P := 12) (L := L2) (by omega) (by omega) (by omega) (by omega) b2 (by omega)) ?_
  rintro M3 L3 ⟨c1, c2, c3, c4⟩
  dsimp only at c1 c2 c3 c4
  subst c1
  refine wq_b2 (m_bits (v := 0) (n := 1) (P := 13) (L := L3) (by omega) (by omega) (by omega) (by omega) c2 (by omega)) ?_
  rintro M4 L4 ⟨d1, d2, d3, d4⟩
  dsimp only at d1 d2 d3 d4
  subst d1
  unfold fX12_writePlain_b159 fX12_writePlain_b184
  simp (decide := true) only [ite_true, ite_false]
  refine wq_b2 (m_bits (v := 0) (n := 1) (P := 14) (L := L4) (by omega) (by omega) (by omega) (by omega) d2 (by omega)) ?_
  rintro M5 L5 ⟨e1, e2, e3, e4⟩
  dsimp only at e1 e2 e3 e4
  subst e1
  unfold fX12_writePlain_b187
  have f5 : ∀ a y, ¬ (a = 821 ∧ (y = 34 ∨ y = 48)) → a ≠ 848 → M5 a y = M a y := fun a y u1 u2 => by
    rw [e4 a y (by omega) (by omega), d4 a y (by omega) (by omega), c4 a y (by omega) (by omega), b4 a y (by omega) (by omega), a4 a y (by omega) (by omega), mset_n (by omega), mset_n (by omega)]
  have k5 : M5 821 48 = -1 := by
    rw [e4 821 48 (by omega) (by omega), d4 821 48 (by omega) (by omega), c4 821 48 (by omega) (by omega), b4 821 48 (by omega) (by omega), a4 821 48 (by omega) (by omega), mset_n (by omega), mset_s]
  rw [mck_s hf (by omega), sI_nn (by omega), f5 826 f (by omega) (by omega), h826]
  refine wq_b2 (m_bits (v := 8) (n := 4) (P := 15) (L := L5) (by omega) (by omega) (by omega) (by omega) e2 (by omega)) ?_
  rintro M6 L6 ⟨g1, g2, g3, g4⟩
  dsimp only at g1 g2 g3 g4
  subst g1
  have f6 : ∀ a y, ¬ (a = 821 ∧ (y = 34 ∨ y = 48)) → a ≠ 848 → M6 a y = M a y := fun a y u1 u2 => by rw [g4 a y (by omega) (by omega), f5 a y u1 u2]
  have k6 : M6 821 48 = -1 := by rw [g4 821 48 (by omega) (by omega)]; exact k5
  have head : ∀ i, i < 19 → M6 848 i = sI (pbF id oc i) := by
    intro i hi
    unfold pbF
    rw [if_pos hi]
    by_cases z1 : i < 1
    · have : i = 0 := by omega
      subst this
      rw [g4 848 0 (by omega) (by omega), e4 848 0 (by omega) (by omega), d4 848 0 (by omega) (by omega), c4 848 0 (by omega) (by omega), b4 848 0 (by omega) (by omega)]
      exact a3 0 (by omega)
    · by_cases z2 : i ≤ 11
      · rw [g4 848 i (by omega) (by omega), e4 848 i (by omega) (by omega), d4 848 i (by omega) (by omega), c4 848 i (by omega) (by omega), if_pos (by omega)]
        have := b3 (i - 1) (by omega)
        rw [show 1 + (i - 1) = i by omega, show 11 - 1 - (i - 1) = 11 - i by omega] at this
        exact this
      · rw [if_neg (by omega)]
        by_cases z3 : i = 12
        · subst z3
          rw [g4 848 12 (by omega) (by omega), e4 848 12 (by omega) (by omega), d4 848 12 (by omega) (by omega)]
          exact c3 0 (by omega)
        · by_cases z4 : i = 13
          · subst z4
            rw [g4 848 13 (by omega) (by omega), e4 848 13 (by omega) (by omega)]
            exact d3 0 (by omega)
          · by_cases z5 : i = 14
            · subst z5
              rw [g4 848 14 (by omega) (by omega)]
              exact e3 0 (by omega)
            · have := g3 (i - 15) (by omega)
              rw [show 15 + (i - 15) = i by omega, pb_8 (i - 15) (by omega)] at this
              rw [this]
              by_cases z6 : i = 15
              · rw [if_pos (by omega), if_pos z6]
              · rw [if_neg (by omega), if_neg z6]
  refine wq_for (body := fun r z => fX12_writePlain_i201 fu (sI f) r z.1 z.2.1 z.2.2) (fun j (x : mwM) => (sI j, x, L6)) (fun j x => x 821 34 = sI (19 + 8 * j) ∧ (∀ i, i < 19 + 8 * j → x 848 i = sI (pbF id oc i)) ∧ x 821 48 = -1 ∧ ∀ a y, ¬ (a = 821 ∧ (y = 34 ∨ y = 48)) → a ≠ 848 → x a y = M a y) 8 ?_ ?_ 8 0 M6 fu (by omega) (by omega) ⟨g2, head, k6, f6⟩
  · intro j x r hj ⟨x1, x2, x3, x4⟩ ih
    show wq (fX12_writePlain_i201 fu (sI f) r (sI j) x L6) _
    unfold fX12_writePlain_i201
    have oo : DX12_octetsOf fu (sI 0) (sI 8) x L6 = some (sI 8, x, L6) := m_octetsOf (e := 0) (f := 0) (r := 0) (c := 8) (by omega) (by omega) (by omega) (by omega)
    obtain ⟨o1, o2⟩ := h827 j hj
    rw [mck_s hf (by omega), mck_s hf (by omega), sI_nn (by omega), x4 825 f (by omega) (by omega), h825, x4 826 f (by omega) (by omega), h826]
    rw [show (0 : Int32) = sI 0 from rfl, show (8 : Int32) = sI 8 from rfl, oo, mb3_s, if_neg (show ¬ sI 8 ≤ sI j by rw [sI_le (by omega) (by omega)]; omega), sI_lml, sI_add, mck_s (by omega) (by omega), sI_nn (by omega), x4 827 _ (by omega) (by omega), o1]
    refine wq_b2 (m_bits (v := oc j) (n := 8) (P := 19 + 8 * j) (L := L6) (by omega) (by omega) (by omega) (by omega) x1 (by omega)) ?_
    rintro Y L7 ⟨y1, y2, y3, y4⟩
    dsimp only at y1 y2 y3 y4
    subst y1
    simp only [mlet]
    rw [sI_1]
    refine ih _ ⟨by rw [y2]; rfl, fun i u => ?_, by rw [y4 821 48 (by omega) (by omega)]; exact x3, fun a y u1 u2 => by rw [y4 a y (by omega) (by omega)]; exact x4 a y u1 u2⟩
    by_cases z : i < 19 + 8 * j
    · rw [y4 848 i (by omega) (by omega)]
      exact x2 i z
    · have := y3 (i - (19 + 8 * j)) (by omega)
      rw [show 19 + 8 * j + (i - (19 + 8 * j)) = i by omega] at this
      rw [this]
      unfold pbF
      rw [if_neg (by omega), show (i - 19) / 8 = j by omega, show 8 - 1 - (i - (19 + 8 * j)) = 7 - (i - 19) % 8 by omega]
  · intro x r ⟨x1, x2, x3, x4⟩
    show wq (fX12_writePlain_i201 fu (sI f) r (sI 8) x L6) _
    unfold fX12_writePlain_i201
    have oo : DX12_octetsOf fu (sI 0) (sI 8) x L6 = some (sI 8, x, L6) := m_octetsOf (e := 0) (f := 0) (r := 0) (c := 8) (by omega) (by omega) (by omega) (by omega)
    rw [mck_s hf (by omega), mck_s hf (by omega), sI_nn (by omega), x4 825 f (by omega) (by omega), h825, x4 826 f (by omega) (by omega), h826]
    rw [show (0 : Int32) = sI 0 from rfl, show (8 : Int32) = sI 8 from rfl, oo, mb3_s, if_pos (show sI 8 ≤ sI 8 by decide)]
    exact wq_some ⟨rfl, x1, x2, x3, x4⟩
