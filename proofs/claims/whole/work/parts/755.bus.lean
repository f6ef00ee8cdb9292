/-! the reference's check -/
def wdH (h : Nat → Nat) : Nat := if h 13 = 1 then (if 16 < h 16 then 21 else 17) else 15
def tlH (h : Nat → Nat) : Nat := if h 13 = 1 then Wd h else 0
theorem kd_flex : ∀ e, e < 2 → ∀ f, f < 2 → ∀ r, r < 2 → ((sI (kdE e f r) = 2 ∨ sI (kdE e f r) = 3) ↔ f = 1) := by decide
theorem PI_16 {p h : Nat → Nat} (hI : PI p h) (hk : h 17 < 100000) : h 16 = ocE (h 13) (h 11) (h 14) := by
  obtain ⟨_, _, _, _, _, _, _, _, _, _, b2, _⟩ := PI_b hI
  have k := b2 hk
  obtain ⟨i1, i2, i3, i4, i5, i6, i7, i8, i9, _⟩ := PI_x.mp hI
  by_cases z : atE (h 12) < h 5 ∧ caE (h 12) (h 13) + 4 ≤ h 5
  · rw [if_pos z] at i8
    exact i8
  · rw [if_neg z] at i9
    omega
theorem m_width {fu : Nat} {p h : Nat → Nat} {M : mwM} {L : mwL} (hI : PI p h) (hk : h 17 < 100000) (h42 : M 821 42 = sI (kdH h)) (h43 : M 821 43 = sI (h 14)) : DX12_width fu M L = some (sI (wdH h), M, L) := by
  obtain ⟨w11, w12, w13, _, _, w16, _, w14, _⟩ := PI_b hI
  have e16 := PI_16 hI hk
  have fl := kd_flex _ w12 _ w13 _ w11
  have b21 : h 13 = 1 → fX12_width_b21 fu M L = some (sI (wdH h), M, L) := fun c => by
    unfold fX12_width_b21 fX12_width_b44 wdH
    rw [h42, h43]
    unfold kdH
    rw [m_octetsOf w12 w13 w11 w14, mb3_s, ← e16, if_pos c]
    by_cases d : 16 < h 16
    · rw [if_neg (by rw [sI_lel (by omega) (by decide)]; omega), if_pos d]
      rfl
    · rw [if_pos (by rw [sI_lel (by omega) (by decide)]; omega), if_neg d]
      rfl
  unfold DX12_width fX12_width_b44
  rw [h42]
  unfold kdH
  by_cases c : h 13 = 1
  · rw [b21 c]
    rcases fl.mpr c with z | z
    · rw [if_pos z]
    · rw [if_pos z]
      split <;> rfl
  · have n2 : ¬ sI (kdE (h 12) (h 13) (h 11)) = 2 := fun z => c (fl.mp (Or.inl z))
    have n3 : ¬ sI (kdE (h 12) (h 13) (h 11)) = 3 := fun z => c (fl.mp (Or.inr z))
    rw [if_neg n2, if_neg n3]
    unfold wdH
    rw [if_neg c]
    rfl
theorem m_tail {fu : Nat} {p h : Nat → Nat} {M : mwM} {L : mwL} (hI : PI p h) (hk : h 17 < 100000) (h42 : M 821 42 = sI (kdH h)) (h43 : M 821 43 = sI (h 14)) : DX12_tail fu M L = some (sI (tlH h), M, L) := by
  obtain ⟨w11, w12, w13, _, _, w16, _, w14, _⟩ := PI_b hI
  have fl := kd_flex _ w12 _ w13 _ w11
  unfold DX12_tail fX12_tail_b18
  rw [m_width hI hk h42 h43, mb3_s, h42]
  simp only [mlet]
  unfold kdH
  by_cases c : h 13 = 1
  · have e : 4 + sI (wdH h) + (4 + sI (wdH h) + 3) / 4 = sI (tlH h) := by
      unfold wdH tlH Wd
      rw [if_pos c, if_pos c]
      by_cases d : 16 < h 16
      · rw [if_pos d, if_pos d]
        rfl
      · rw [if_neg d, if_neg d]
        rfl
    rw [e]
    rcases fl.mpr c with z | z
    · rw [if_pos z]
    · rw [if_pos z]
      split <;> rfl
  · have n2 : ¬ sI (kdE (h 12) (h 13) (h 11)) = 2 := fun z => c (fl.mp (Or.inl z))
    have n3 : ¬ sI (kdE (h 12) (h 13) (h 11)) = 3 := fun z => c (fl.mp (Or.inr z))
    rw [if_neg n2, if_neg n3]
    unfold tlH
    rw [if_neg c]
    rfl
/-- is the check right? -/
def rgt (s : Nat → Nat) (E : Nat) (p h : Nat → Nat) : Bool := if h 13 = 1 then decide (tld s E (Wd h) = crcF (2 ^ wTop (wdH h)) (wSh (wdH h)) (wV0 (wdH h)) (scS s E) (E + 4)) else decide (num p (h 17) 15 = crcF (2 ^ 14) 17817 0 p (h 17))
theorem m_right {fu n E : Nat} {s p h o : Nat → Nat} {M : mwM} {L : mwL} (hfu : 1300 ≤ fu) (hn : n < 7) (hD : ED s E p h o) (hE : E ≤ 1000) (hB : BMx M s E p h) (h45 : M 821 45 = sI E) (hs : ∀ i, i < E → s i < 2) (hse : h 13 = 1 → ∀ i, i < E + Wd h → M 837 (1200 * n + i) = sI (s i) ∧ s i < 2) : wq (DX12_right fu (sI n) M L) (fun z => z.1 = bI (rgt s E p h) ∧ z.2.2 = L ∧ (h 13 = 1 → z.2.1 821 48 = -1) ∧ ∀ a y, ¬ (a = 821 ∧ (y = 41 ∨ (y = 48 ∧ h 13 = 1))) → a ≠ 852 → z.2.1 a y = M a y) := by
  obtain ⟨⟨e1, e2, e3, e4, e5, e6, _⟩, hd⟩ := hD
  obtain ⟨w11, w12, w13, _, _, w16, _, w14, _, _, b2, b3, _, _⟩ := PI_b e1
  have k17 : h 17 < 100000 := by
    by_cases y : h 17 < 100000
    · exact y
    · have := b3 (by omega)
      omega
  have kk := b2 k17
  obtain ⟨m1, m2, m3, m4, m5, m6, m7⟩ := hB
  have bits := (PI_x.mp e1).1
  unfold DX12_right
  rw [m_width e1 k17 m4 m5, mb3_s, m_tail e1 k17 m4 m5, mb3_s]
  by_cases c : h 13 = 1
  · obtain ⟨d1, d2, d3⟩ := hd.resolve_right (by omega)
    have wb := Wd_b h
    have tl : tlH h = Wd h := if_pos c
    rw [tl, if_neg (show ¬ sI (Wd h) ≤ 0 by rw [sI_lel (by omega) (by decide)]; omega)]
    simp only [mlet]
    unfold fX12_right_b19
    rw [m_tail (M := mset M 821 48 (-1)) e1 k17 (by rw [mset_n (by omega)]; exact m4) (by rw [mset_n (by omega)]; exact m5), mb3_s, tl, if_neg (show ¬ sI (Wd h) = 0 by rw [sI_eql (by omega) (by decide)]; omega)]
    obtain ⟨m8, m9⟩ := m7 c
    have hse' := hse c
    have w2 : wdH h = 17 ∨ wdH h = 21 := by
      unfold wdH
      rw [if_pos c]
      split <;> omega
    refine wq_for (body := fun f z => fX12_right_i99 fu (sI n) f z.1 z.2.1 z.2.2.1 z.2.2.2.1 z.2.2.2.2.1 z.2.2.2.2.2) (fun j (x : mwM) => (sI (wdH h), sI (tld s E j), sI (j - (j + 4) / 5), sI j, x, L)) (fun j x => x 821 41 = sI (E + (min j 5 - 1)) ∧ (∀ i, i < E + (min j 5 - 1) → x 852 i = sI (scS s E i)) ∧ ∀ a y, ¬ (a = 821 ∧ y = 41) → a ≠ 852 → x a y = mset M 821 48 (-1) a y) (Wd h) ?_ ?_ (Wd h) 0 (mset M 821 48 (-1)) fu (by omega) (by omega) ⟨by rw [mset_n (by omega)]; exact m8, fun i u => ?_, fun _ _ _ _ => rfl⟩
    · intro j x f hj ⟨x1, x2, x3⟩ ih
      show wq (fX12_right_i99 fu (sI n) f (sI (wdH h)) (sI (tld s E j)) (sI (j - (j + 4) / 5)) (sI j) x L) _
      unfold fX12_right_i99 fX12_right_b154 fX12_right_b157
      have xf : ∀ a y, ¬ (a = 821 ∧ (y = 41 ∨ y = 48)) → a ≠ 852 → x a y = M a y := fun a y u1 u2 => by
        rw [x3 a y (by omega) u2, mset_n (by omega)]
      obtain ⟨hb1, hb2⟩ := hse' (E + j) (by omega)
      rw [m_tail (M := x) e1 k17 (by rw [xf 821 42 (by omega) (by omega)]; exact m4) (by rw [xf 821 43 (by omega) (by omega)]; exact m5), mb3_s, tl, if_neg (show ¬ sI (Wd h) ≤ sI j by rw [sI_le (by omega) (by omega)]; omega), show sI j - sI j / 5 * 5 = sI (j % 5) from sI_mod (b := 5) (by omega) (by omega)]
      simp only [mlet]
      rw [sI_1]
      by_cases c1 : j % 5 = 0
      · rw [if_pos (show sI (j % 5) = 0 by rw [c1]; rfl)]
        have := ih x ⟨by rw [x1]; congr 1; omega, fun i u => x2 i (by omega), x3⟩
        unfold tld at this
        rw [if_pos (Or.inl c1), show j + 1 - (j + 1 + 4) / 5 = j - (j + 4) / 5 by omega] at this
        exact this
      · rw [if_neg (show ¬ sI (j % 5) = 0 by rw [sI_eql (by omega) (by decide)]; exact c1), xf 821 45 (by omega) (by omega), h45, sI_add, m_bitAt (b := s (E + j)) hn (by omega) (by rw [xf 837 _ (by omega) (by omega)]; exact hb1), mb3_s, sI_1]
        by_cases c2 : j < 5
        · rw [if_neg (show ¬ 4 ≤ sI (j - (j + 4) / 5) by rw [sI_lle (by decide) (by omega)]; omega), m_check x1 (by omega) hb2, mb2_s]
          refine (?_ : wq (f (sI (wdH h), sI (tld s E j), sI (j - (j + 4) / 5 + 1), sI (j + 1), mset (mset x 852 (E + (min j 5 - 1)) (sI (s (E + j)))) 821 41 (sI (E + (min j 5 - 1) + 1)), L)) _)
          have := ih (mset (mset x 852 (E + (min j 5 - 1)) (sI (s (E + j)))) 821 41 (sI (E + (min j 5 - 1) + 1))) ⟨by rw [mset_s]; congr 1; omega, fun i u => ?_, fun a y u1 u2 => by rw [mset_n (by omega), mset_n (by omega)]; exact x3 a y u1 u2⟩
          · unfold tld at this
            rw [if_pos (by omega), show j + 1 - (j + 1 + 4) / 5 = j - (j + 4) / 5 + 1 by omega] at this
            exact this
          · rw [mset_n (by omega)]
            by_cases q : i = E + (min j 5 - 1)
            · rw [q, mset_s]
              unfold scS
              rw [if_neg (by omega), show E + (min j 5 - 1) + 1 = E + j by omega]
            · rw [mset_n (by omega)]
              exact x2 i (by omega)
        · rw [if_pos (show 4 ≤ sI (j - (j + 4) / 5) by rw [sI_lle (by decide) (by omega)]; omega), sI_lml, sI_add]
          have := ih x ⟨by rw [x1]; congr 1; omega, fun i u => x2 i (by omega), x3⟩
          unfold tld at this
          rw [if_neg (by omega), show j + 1 - (j + 1 + 4) / 5 = j - (j + 4) / 5 + 1 by omega] at this
          exact this
    · intro x f ⟨x1, x2, x3⟩
      show wq (fX12_right_i99 fu (sI n) f (sI (wdH h)) (sI (tld s E (Wd h))) (sI (Wd h - (Wd h + 4) / 5)) (sI (Wd h)) x L) _
      unfold fX12_right_i99 fX12_right_b177
      have xf : ∀ a y, ¬ (a = 821 ∧ (y = 41 ∨ y = 48)) → a ≠ 852 → x a y = M a y := fun a y u1 u2 => by
        rw [x3 a y (by omega) u2, mset_n (by omega)]
      have sc2 : ∀ i, i < E + 4 → scS s E i < 2 := fun i u => by
        unfold scS
        split
        · exact hs i (by assumption)
        · exact (hse' (i + 1) (by omega)).2
      rw [show E + (min (Wd h) 5 - 1) = E + 4 by omega] at x1 x2
      rw [m_tail (M := x) e1 k17 (by rw [xf 821 42 (by omega) (by omega)]; exact m4) (by rw [xf 821 43 (by omega) (by omega)]; exact m5), mb3_s, tl, if_pos (show sI (Wd h) ≤ sI (Wd h) by rw [sI_le (by omega) (by omega)]; omega), m_checkOf (c := E + 4) (s := scS s E) (by omega) (by omega) x1 (by omega) (fun i u => ⟨x2 i u, sc2 i u⟩), mb3_s]
      simp only [mzz_0, mzz_1]
      have t1 := tld_lt (s := s) (e := E) (Wd h) (fun j u => (hse' j (by omega)).2)
      have t2 : 2 ^ (Wd h - (Wd h + 4) / 5 - 4) ≤ 2 ^ 21 := Nat.pow_le_pow_right (by omega) (by omega)
      have t3 : crcF (2 ^ wTop (wdH h)) (wSh (wdH h)) (wV0 (wdH h)) (scS s E) (E + 4) < 2 ^ 21 := by
        have nx : crcF (2 ^ wTop (wdH h)) (wSh (wdH h)) (wV0 (wdH h)) (scS s E) (E + 4) = crcS (2 ^ wTop (wdH h)) (wSh (wdH h)) (crcF (2 ^ wTop (wdH h)) (wSh (wdH h)) (wV0 (wdH h)) (scS s E) (E + 3)) (scS s E (E + 3)) := rfl
        rw [nx]
        rcases w2 with w | w
        · rw [w]
          exact Nat.lt_of_lt_of_le (crcS_lt (m := 16) (by decide)) (by decide)
        · rw [w]
          exact crcS_lt (m := 20) (by decide)
      have fr : ∀ a y, ¬ (a = 821 ∧ (y = 41 ∨ (y = 48 ∧ h 13 = 1))) → a ≠ 852 → x a y = M a y := fun a y u1 u2 => by
        rw [x3 a y (by omega) u2, mset_n (by omega)]
      unfold rgt
      rw [if_pos c]
      by_cases q : tld s E (Wd h) = crcF (2 ^ wTop (wdH h)) (wSh (wdH h)) (wV0 (wdH h)) (scS s E) (E + 4)
      · rw [if_pos (by rw [q]), decide_eq_true q]
        exact wq_some ⟨rfl, rfl, fun _ => by dsimp only; rw [x3 821 48 (by omega) (by omega), mset_s], fr⟩
      · rw [if_neg (by rw [sI_eq (by omega) (by omega)]; exact q), decide_eq_false q]
        exact wq_some ⟨rfl, rfl, fun _ => by dsimp only; rw [x3 821 48 (by omega) (by omega), mset_s], fr⟩
    · rw [mset_n (by omega)]
      unfold scS
      rw [if_pos (by omega)]
      exact m9 i (by omega)
  · obtain ⟨d1, d2, d3⟩ := hd.resolve_left (by omega)
    have tl : tlH h = 0 := if_neg c
    have wd : wdH h = 15 := if_neg c
    rw [tl, wd, if_pos (show sI 0 ≤ 0 by decide)]
    unfold fX12_right_b19
    rw [m_tail e1 k17 m4 m5, mb3_s, tl, if_pos (show sI 0 = 0 from rfl), m1, show sI (h 5) - 15 = sI (h 5 - 15) from sI_sub (b := 15) (by omega)]
    have nm : DX12_number fu (sI (h 5 - 15)) 15 M L = some (sI (num p (h 5 - 15) 15), M, L) := m_number (n := 15) (by omega) (by omega) (fun i u1 u2 => m2 i (by omega))
    rw [nm, mb3_s, show h 5 - 15 = h 17 by omega]
    simp only [mlet]
    have kl : num p (h 17) 15 < 2 ^ 15 := num_lt 15 (fun i u1 u2 => bits i (by omega))
    refine wq_for (body := fun f z => fX12_right_i48 fu (sI n) f z.1 z.2.1 z.2.2.1 z.2.2.2) (fun j (x : mwM) => (sI (num p (h 17) 15), sI j, x, L)) (fun j x => x 821 41 = sI j ∧ (∀ i, i < j → x 852 i = sI (p i)) ∧ ∀ a y, ¬ (a = 821 ∧ y = 41) → a ≠ 852 → x a y = M a y) (h 17) ?_ ?_ (h 17) 0 (mset M 821 41 0) fu (by omega) (by omega) ⟨by rw [mset_s]; rfl, fun i u => by omega, fun a y u1 u2 => mset_n u1⟩
    · intro j x f hj ⟨x1, x2, x3⟩ ih
      show wq (fX12_right_i48 fu (sI n) f (sI (num p (h 17) 15)) (sI j) x L) _
      unfold fX12_right_i48
      rw [x3 821 34 (by omega) (by omega), m1, show sI (h 5) - 15 = sI (h 5 - 15) from sI_sub (b := 15) (by omega), if_neg (by rw [sI_le (by omega) (by omega)]; omega), mck_s (by omega) (by omega), sI_nn (by omega), x3 848 j (by omega) (by omega), m2 j (by omega), m_check x1 (by omega) (bits j (by omega)), mb2_s]
      simp only [mlet]
      rw [sI_1]
      refine ih _ ⟨mset_s, fun i u => ?_, fun a y u1 u2 => by rw [mset_n (by omega), mset_n (by omega)]; exact x3 a y u1 u2⟩
      rw [mset_n (by omega)]
      by_cases q : i = j
      · rw [q, mset_s]
      · rw [mset_n (by omega)]
        exact x2 i (by omega)
    · intro x f ⟨x1, x2, x3⟩
      show wq (fX12_right_i48 fu (sI n) f (sI (num p (h 17) 15)) (sI (h 17)) x L) _
      unfold fX12_right_i48 fX12_right_b92
      have co : DX12_checkOf fu 15 x L = some (sI (crcF (2 ^ 14) 17817 0 p (h 17)), x, L) := m_checkOf (w := 15) (c := h 17) (s := p) (by omega) (by omega) x1 (by omega) (fun i u => ⟨x2 i u, bits i (by omega)⟩)
      rw [x3 821 34 (by omega) (by omega), m1, show sI (h 5) - 15 = sI (h 5 - 15) from sI_sub (b := 15) (by omega), if_pos (by rw [sI_le (by omega) (by omega)]; omega), co, mb3_s]
      simp only [mzz_0, mzz_1]
      have t3 := crcF15_lt (s := p) (h 17)
      have fr : ∀ a y, ¬ (a = 821 ∧ (y = 41 ∨ (y = 48 ∧ h 13 = 1))) → a ≠ 852 → x a y = M a y := fun a y u1 u2 => x3 a y (by omega) u2
      unfold rgt
      rw [if_neg c]
      by_cases q : num p (h 17) 15 = crcF (2 ^ 14) 17817 0 p (h 17)
      · rw [if_pos (by rw [q]), decide_eq_true q]
        exact wq_some ⟨rfl, rfl, fun z => absurd z c, fr⟩
      · rw [if_neg (by rw [sI_eq (by omega) (by omega)]; exact q), decide_eq_false q]
        exact wq_some ⟨rfl, rfl, fun z => absurd z c, fr⟩
