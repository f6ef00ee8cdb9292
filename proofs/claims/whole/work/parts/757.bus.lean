/-! the reference answers, and takes -/
theorem BE_HK {s : Nat → Nat} {K e : Nat} (hB : BE s z0 K e) (hg : Gd s K) : HV s K e := by
  obtain ⟨b1, b2, b3, b4⟩ := hB
  refine ⟨b1, b2, fun j u1 u2 u3 => b3 j u1 u3 u2, fun j u1 u2 u3 => ?_, fun u _ => ?_⟩
  · have e1 := b3 j u1 (by omega) (by omega)
    have := hg j u1 u3
    rw [(rAll_0 e1.2.1).1] at this
    rcases this with z | z
    · exact z
    · exact absurd z rBody_6
  · have := (b4 0 (by omega)).1
    have hd := this.1.2
    intro z
    omega
theorem HV_EK {s : Nat → Nat} {K E : Nat} (hV : HV s K E) (hK : 1 ≤ K) (h0 : s 0 = 0) (hs : ∀ i, i < K → s i < 2) (hg : Gd s K) : BE s z0 K E := by
  obtain ⟨e, hB⟩ := BE_K z0 K hK h0 hs hg
  have := HV_u (BE_HK hB hg) hV
  rw [← this]
  exact hB
theorem m_answers {fu n K E : Nat} {s : Nat → Nat} {M : mwM} {L : mwL} (hfu : 1300 ≤ fu) (hn : n < 7) (h836 : M 836 n = sI K) (hse : ∀ i, i < K → M 837 (1200 * n + i) = sI (s i)) (h0 : s 0 = 0) (hV : CaV s K E) (hg : Gd s K) (hC : CA M) : wq (DX12_answers fu (sI n) M L) (fun z => z.1 = bI (decide (putK (hq s K) = 0)) ∧ z.2.2 = L ∧ bF M z.2.1 ∧ CA z.2.1) := by
  obtain ⟨k1, k2, k3, hHV⟩ := hV
  have hV : CaV s K E := ⟨k1, k2, k3, hHV⟩
  have hB := HV_EK hHV k1 h0 k3 hg
  obtain ⟨b1, b2, b3, b4⟩ := hB
  unfold DX12_answers fX12_answers_b51 fX12_answers_b52
  refine wq_b3 (m_body hfu hn h836 hse h0 hV hC) ?_
  rintro r M1 L1 ⟨y1, y2, y3, y4⟩
  dsimp only at y1 y2 y3 y4
  subst y1
  simp only [mzz_0, mzz_1]
  have hca := CAs_CA hV y3
  have hcas := y3
  obtain ⟨y5, y6, y7⟩ := y3
  rw [y4] at y7
  have pk1 : putK (hq s K) = 1 → wq (some ((0 : Int32), M1, L1)) (fun z => z.1 = bI (decide (putK (hq s K) = 0)) ∧ z.2.2 = L1 ∧ bF M z.2.1 ∧ CA z.2.1) := fun z => by
    rw [z]
    exact wq_some ⟨rfl, rfl, y2, hca⟩
  rcases y7 with ⟨z1, z2, z3⟩ | ⟨z1, z2, z3, z4, z5⟩ | ⟨z1, z2, z3⟩
  · exfalso
    have e1 := b3 (E - 1) (by omega) (by omega) (by omega)
    have := hg (E - 1) (by omega) (by omega)
    rw [(rAll_0 e1.2.1).1] at this
    rcases this with z | z
    · exact z2 z
    · exact rBody_6 z
  · subst z3
    obtain ⟨hT, _, _⟩ := b4 (K - E) (by omega)
    rw [show E + (K - E) = K by omega] at hT
    have hD := hT.1
    have hD' := hD
    obtain ⟨⟨e1, e2, e3, e4, e5, e6, _⟩, hd⟩ := hD'
    obtain ⟨w11, w12, w13, _, _, w16, _, w14, _, _, c2, c3, _, _⟩ := PI_b e1
    have k17 : hq s E 17 < 100000 := by
      by_cases y : hq s E 17 < 100000
      · exact y
      · have := c3 (by omega)
        omega
    obtain ⟨m1, m2, m3, m4, m5, m6, m7⟩ := z5
    have wb := Wd_b (hq s E)
    have tl1 : tlH (hq s E) ≤ 32 := by unfold tlH; split <;> omega
    rw [if_pos rfl, z4, if_neg (fun w => sI_m1n (by omega) w.symm), mck_s (by omega) (by omega), m_tail e1 k17 m4 m5, mb3_s, sI_nn (by omega), y2 836 n (by omega) (by omega) (by omega) (by omega), h836, sI_add, sI_1]
    -- where the answer stands
    have main : ∀ i, hq s K 1 = 2 → hq s K 6 = i → K = E + tlH (hq s E) + i → hRight (hq s K) = rgt s E (pq s E) (hq s E) → wq (if sI K = sI (E + tlH (hq s E) + 1) then mb3 (DX12_right fu (sI n) M1 L1) (fun r14 M12 L13 => if r14 = 0 then some ((0 : Int32), M12, L13) else some (1, M12, L13)) else some (0, M1, L1)) (fun z => z.1 = bI (decide (putK (hq s K) = 0)) ∧ z.2.2 = L1 ∧ bF M z.2.1 ∧ CA z.2.1) := by
      intro i h1 h6 hi hR
      by_cases q : i = 1
      · rw [if_pos (by rw [hi, q])]
        refine wq_b3 (m_right (L := L1) hfu hn hD (by omega) ⟨m1, m2, m3, m4, m5, m6, m7⟩ z4 (fun i u => k3 i (by omega)) (fun c i u => ?_)) ?_
        · have tw : tlH (hq s E) = Wd (hq s E) := if_pos c
          exact ⟨by rw [y2 837 _ (by omega) (by omega) (by omega) (by omega)]; exact hse i (by omega), k3 i (by omega)⟩
        rintro r2 M2 L2 ⟨t1, t2, t3, t4⟩
        dsimp only at t1 t2 t3 t4
        subst t2
        have bf2 : bF M M2 := bF_t y2 (fun a y u1 u2 u3 u4 => t4 a y (by omega) u3)
        have ca2 := CA_right hV z1 hcas t3 t4
        rw [t1, ← hR]
        unfold putK
        rw [h1, h6, q]
        cases hr : hRight (hq s K) with
        | false =>
          rw [if_pos (show bI false = 0 from rfl), if_neg (fun z => by cases z.2.2)]
          exact wq_some ⟨rfl, rfl, bf2, ca2⟩
        | true =>
          rw [if_neg (show ¬ bI true = 0 by decide), if_pos ⟨rfl, rfl, rfl⟩]
          exact wq_some ⟨rfl, rfl, bf2, ca2⟩
      · rw [if_neg (by rw [sI_eq (by omega) (by omega)]; omega)]
        apply pk1
        unfold putK
        rw [if_neg (fun z => by omega)]
    rcases hT.2 with ⟨d1, d2, d3⟩ | ⟨d1, d2, d3, d4, d5⟩ | ⟨d1, g, d2, d3, d4, d5, d6⟩
    · have tl : tlH (hq s E) = 0 := if_neg (by omega)
      exact main (K - E) (by rw [d2]; show hq s E 1 = 2; omega) (by rw [d2, nst_s]) (by omega) (by rw [d2]; exact (show hRight (hq s E) = _ from hR_nf hD d1))
    · have tl : tlH (hq s E) = Wd (hq s E) := if_pos d1
      rw [tl, if_neg (by rw [sI_eq (by omega) (by omega)]; omega)]
      apply pk1
      unfold putK
      rw [if_neg (fun z => by omega)]
    · have tl : tlH (hq s E) = Wd (hq s E) := if_pos d1
      exact main (K - E - Wd (hq s E)) (by rw [d6]; exact d3) (by rw [d6, nst_s]) (by omega) (by rw [d6]; exact (show hRight g = _ from hR_fx d2 d1))
  · subst z2
    rw [if_pos rfl, z3, if_pos rfl]
    apply pk1
    unfold putK
    have := (b3 K k1 (by omega) (by omega)).2.1
    rw [if_neg (fun z => by omega)]
theorem kd_from : ∀ e, e < 2 → ∀ f, f < 2 → ∀ r, r < 2 → (if sI (kdE e f r) = 2 then (22 : Int32) else if sI (kdE e f r) = 3 then 41 else if (sI (kdE e f r) - sI (kdE e f r) / 2 * 2) = 1 then 39 else 19) = sI (caE e f + 4) ∧ kdE e f r < 8 := by decide
theorem nb_kd : ∀ x, x < 128 → vp_nar .byte ((sI x).toInt8.toInt32) = sI x := by decide +kernel
def bt8 (x : Nat) : Int32 := vp_nar .byte ((sI x).toInt8.toInt32)
theorem bt8_u : ∀ x, x < 256 → bt8 x &&& 255 = sI x := by decide +kernel
def TkR (M M' : mwM) (n tk : Nat) (p h : Nat → Nat) : Prop := M' 839 tk = sI n ∧ M' 840 tk = sI (h 10) ∧ M' 841 tk = sI (kdH h) ∧ M' 842 tk = sI (h 14) ∧ M' 843 tk = M 821 2 ∧ (∀ i, i < h 16 → M' 844 (64 * tk + i) = bt8 (num p (h 15 + 4 + 8 * i) 8)) ∧ M' 821 22 = sI (tk + 1) ∧ ∀ a y, ¬ (a = 821 ∧ (y = 22 ∨ y = 34 ∨ (41 ≤ y ∧ y ≤ 46) ∨ y = 48 ∨ y = 49)) → ¬ (839 ≤ a ∧ a ≤ 843 ∧ y = tk) → ¬ (a = 844 ∧ 64 * tk ≤ y ∧ y < 64 * tk + 64) → a ≠ 848 → a ≠ 852 → a ≠ 853 → M' a y = M a y
theorem CA_fr {M M' : mwM} (h : CA M) (hf : ∀ a y, (a = 821 ∧ (y = 34 ∨ (41 ≤ y ∧ y ≤ 46) ∨ y = 48 ∨ y = 49)) ∨ a = 848 ∨ a = 852 ∨ a = 853 → M' a y = M a y) : CA M' := by
  rcases h with h | ⟨t, kc, E, h1, h2, h3, h4⟩
  · exact Or.inl (by rw [hf 821 48 (by omega)]; exact h)
  · refine Or.inr ⟨t, kc, E, h1, by rw [hf 821 48 (by omega)]; exact h2, fun i u => by rw [hf 853 i (by omega)]; exact h3 i u, ?_⟩
    rw [hf 821 49 (by omega)]
    exact BR_fr h4 (fun a y u => hf a y (by omega))
theorem m_take12 {fu n K E tk : Nat} {s : Nat → Nat} {M : mwM} {L : mwL} (hfu : 1300 ≤ fu) (hn : n < 7) (h836 : M 836 n = sI K) (hse : ∀ i, i < K → M 837 (1200 * n + i) = sI (s i)) (h0 : s 0 = 0) (hV : CaV s K E) (hE : E ≤ K - 1) (hg : Gd s (K - 1)) (hC : CA M) (h834 : M 834 n = 0) (h835 : M 835 n = 0) (h22 : M 821 22 = sI tk) (htk : tk < 4000) : wq (DX12_take fu (sI n) M L) (fun z => z.2 = L ∧ TkR M z.1 n tk (pq s E) (hq s E) ∧ CA z.1) := by
  obtain ⟨k1, k2, k3, hHV⟩ := hV
  have hV : CaV s K E := ⟨k1, k2, k3, hHV⟩
  have e2' := hHV.1
  obtain ⟨hT, hD, hr0⟩ := HV_ET hHV hE (by omega) h0 k3 hg
  unfold DX12_take fX12_take_b146
  refine wq_b3 (m_body hfu hn h836 hse h0 hV hC) ?_
  rintro r M1 L1 ⟨y1, y2, y3, y4⟩
  dsimp only at y1 y2 y3 y4
  subst y1
  have hca := CAs_CA hV y3
  obtain ⟨y5, y6, y7⟩ := y3
  rw [y4] at y7
  rcases y7 with ⟨z1, z2, z3⟩ | ⟨z1, z2, z3, z4, z5⟩ | ⟨z1, z2, z3⟩
  · exact absurd hr0 z2
  · obtain ⟨⟨e1, e2, e3, e4, e5, e6, _⟩, hd⟩ := hD
    obtain ⟨w11, w12, w13, _, _, w16, _, w14, _, _, c2, c3, _, c5⟩ := PI_b e1
    have k17 : hq s E 17 < 100000 := by
      by_cases y : hq s E 17 < 100000
      · exact y
      · have := c3 (by omega)
        omega
    have kk := c2 k17
    have e15 : hq s E 15 = caE (hq s E 12) (hq s E 13) := by
      have i5 := (PI_x.mp e1).2.2.2.2.1
      by_cases w : atE (hq s E 12) < hq s E 5
      · rw [if_pos w] at i5
        exact i5
      · rw [if_neg w] at i5
        omega
    have e16 := PI_16 e1 k17
    have bits := (PI_x.mp e1).1
    obtain ⟨m1, m2, m3, m4, m5, m6, m7⟩ := z5
    obtain ⟨kf1, kf2⟩ := kd_from _ w12 _ w13 _ w11
    have p22 : M1 821 22 = sI tk := by rw [y2 821 22 (by omega) (by omega) (by omega) (by omega)]; exact h22
    rw [mck_s (by omega) (by omega), mck_s (by omega) (by omega), sI_nn (by omega), y2 834 n (by omega) (by omega) (by omega) (by omega), h834, y2 835 n (by omega) (by omega) (by omega) (by omega), h835, show ∀ x : Int32, x &&& 0 = 0 from fun x => Int32.and_zero, if_pos rfl]
    simp only [mlet]
    simp (disch := omega) only [p22, mck_s, sI_nn, mset_n, m4, m5, m6]
    unfold kdH
    rw [nb_kd _ (by omega), nb_kd _ (by omega), m_octetsOf w12 w13 w11 w14, mb3_s, ← e16, y2 821 2 (by omega) (by omega) (by omega) (by omega)]
    simp (disch := omega) only [mset_n, m4]
    unfold kdH
    generalize hM2 : mset (mset (mset (mset (mset M1 839 tk (sI n)) 840 tk (sI (hq s E 10))) 841 tk (sI (kdE (hq s E 12) (hq s E 13) (hq s E 11)))) 842 tk (sI (hq s E 14))) 843 tk (M 821 2) = M2
    have pf : ∀ a y, ¬ (839 ≤ a ∧ a ≤ 843 ∧ y = tk) → M2 a y = M1 a y := fun a y u => by
      rw [← hM2]
      simp (disch := omega) only [mset_n]
    have pv : M2 839 tk = sI n ∧ M2 840 tk = sI (hq s E 10) ∧ M2 841 tk = sI (kdH (hq s E)) ∧ M2 842 tk = sI (hq s E 14) ∧ M2 843 tk = M 821 2 := by
      rw [← hM2]
      unfold kdH
      simp (disch := omega) only [mset_n, mset_s]
      exact ⟨(by first | trivial | rfl), (by first | trivial | rfl), (by first | trivial | rfl), (by first | trivial | rfl), (by first | trivial | rfl)⟩
    have q22 : M2 821 22 = sI tk := by rw [pf 821 22 (by omega)]; exact p22
    -- the octets
    have loop : wq (fX12_take_h151 fu (sI n) fu (sI (hq s E 16), sI (caE (hq s E 12) (hq s E 13) + 4), 0, M2, L1)) (fun z => z.2 = L1 ∧ TkR M z.1 n tk (pq s E) (hq s E) ∧ CA z.1) := by
      refine wq_for (body := fun f z => fX12_take_i151 fu (sI n) f z.1 z.2.1 z.2.2.1 z.2.2.2.1 z.2.2.2.2) (fun j (x : mwM) => (sI (hq s E 16), sI (caE (hq s E 12) (hq s E 13) + 4), sI j, x, L1)) (fun j x => (∀ i, i < j → x 844 (64 * tk + i) = bt8 (num (pq s E) (hq s E 15 + 4 + 8 * i) 8)) ∧ ∀ a y, ¬ (a = 844 ∧ 64 * tk ≤ y ∧ y < 64 * tk + 64) → x a y = M2 a y) (hq s E 16) ?_ ?_ (hq s E 16) 0 M2 fu (by omega) (by omega) ⟨fun i u => by omega, fun _ _ _ => rfl⟩
      · intro j x f hj ⟨x1, x2⟩ ih
        show wq (fX12_take_i151 fu (sI n) f (sI (hq s E 16)) (sI (caE (hq s E 12) (hq s E 13) + 4)) (sI j) x L1) _
        unfold fX12_take_i151
        have nm : DX12_number fu (sI (caE (hq s E 12) (hq s E 13) + 4 + 8 * j)) 8 x L1 = some (sI (num (pq s E) (caE (hq s E 12) (hq s E 13) + 4 + 8 * j) 8), x, L1) := m_number (n := 8) (by omega) (by omega) (fun i u1 u2 => by rw [x2 848 i (by omega), pf 848 i (by omega)]; exact m2 i (by omega))
        rw [if_neg (by rw [sI_le (by omega) (by omega)]; omega), sI_lml, sI_add, nm, mb3_s, x2 821 22 (by omega), q22, sI_lml, sI_add, mck_s (by omega) (by omega), sI_nn (by omega)]
        simp only [mlet]
        rw [sI_1]
        refine ih _ ⟨fun i u => ?_, fun a y u => ?_⟩
        · by_cases q : i = j
          · rw [q, mset_s, e15]
            rfl
          · rw [mset_n (by omega)]
            exact x1 i (by omega)
        · rw [mset_n (by omega)]
          exact x2 a y u
      · intro x f ⟨x1, x2⟩
        show wq (fX12_take_i151 fu (sI n) f (sI (hq s E 16)) (sI (caE (hq s E 12) (hq s E 13) + 4)) (sI (hq s E 16)) x L1) _
        unfold fX12_take_i151
        rw [if_pos (by rw [sI_le (by omega) (by omega)]; omega), x2 821 22 (by omega), q22, sI_1]
        simp only [mlet]
        refine wq_some ⟨rfl, ⟨?_, ?_, ?_, ?_, ?_, fun i u => ?_, ?_, fun a y u1 u2 u3 u4 u5 u6 => ?_⟩, ?_⟩
        · dsimp only
          rw [mset_n (by omega), x2 839 tk (by omega)]; exact pv.1
        · dsimp only
          rw [mset_n (by omega), x2 840 tk (by omega)]; exact pv.2.1
        · dsimp only
          rw [mset_n (by omega), x2 841 tk (by omega)]; exact pv.2.2.1
        · dsimp only
          rw [mset_n (by omega), x2 842 tk (by omega)]; exact pv.2.2.2.1
        · dsimp only
          rw [mset_n (by omega), x2 843 tk (by omega)]; exact pv.2.2.2.2
        · dsimp only
          rw [mset_n (by omega)]; exact x1 i u
        · dsimp only
          rw [mset_s]
        · dsimp only
          rw [mset_n (by omega), x2 a y u3, pf a y u2]
          exact y2 a y (by omega) u4 u5 u6
        · dsimp only
          exact CA_fr hca (fun a y u => by rw [mset_n (by omega), x2 a y (by omega), pf a y (by omega)])
    rw [← kf1] at loop
    generalize kdE (hq s E 12) (hq s E 13) (hq s E 11) = kd at *
    by_cases g1 : sI kd = 2
    · rw [if_pos g1] at loop
      rw [if_pos g1]
      exact loop
    · rw [if_neg g1] at loop
      rw [if_neg g1]
      by_cases g2 : sI kd = 3
      · rw [if_pos g2] at loop
        rw [if_pos g2]
        exact loop
      · rw [if_neg g2] at loop
        rw [if_neg g2]
        by_cases g3 : (sI kd - sI kd / 2 * 2) = 1
        · rw [if_pos g3] at loop
          rw [if_pos g3]
          exact loop
        · rw [if_neg g3] at loop
          rw [if_neg g3]
          exact loop
  · omega
