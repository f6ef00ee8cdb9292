/-! the reference reads, and answers -/
theorem BE_HV {s : Nat → Nat} {K e : Nat} (hB : BE s z0 (K - 1) e) (ce : e ≤ K - 1) (hg : Gd s (K - 1)) : HV s K e := by
  obtain ⟨b1, b2, b3, b4⟩ := hB
  refine ⟨b1, by omega, fun j u1 u2 u3 => b3 j u1 (by omega) u2, fun j u1 u2 u3 => ?_, fun _ _ => ?_⟩
  · have e1 := b3 j u1 (by omega) (by omega)
    have := hg j u1 (by omega)
    rw [(rAll_0 e1.2.1).1] at this
    rcases this with z | z
    · exact z
    · exact absurd z rBody_6
  · have := (b4 0 (by omega)).1
    have hd := this.1.2
    intro z
    omega
theorem HV_ET {s : Nat → Nat} {K E : Nat} (hV : HV s K E) (hE : E ≤ K - 1) (hK : 2 ≤ K) (h0 : s 0 = 0) (hs : ∀ i, i < K → s i < 2) (hg : Gd s (K - 1)) : ET s E (K - 1 - E) (pq s E) (hq s E) (hq s (K - 1)) (oq s z0 E) ∧ ED s E (pq s E) (hq s E) (oq s z0 E) ∧ rBody (s (E - 1)) (hq s (E - 1)) = 0 := by
  obtain ⟨e, hB⟩ := BE_K z0 (K - 1) (by omega) h0 (fun i u => hs i (by omega)) hg
  have rz : rBody (s (E - 1)) (hq s (E - 1)) = 0 := by
    have e1 := hV.2.2.1 (E - 1) (by have := hV.1; omega) (by have := hV.1; omega) (by omega)
    have := hg (E - 1) (by have := hV.1; omega) (by have := hV.1; omega)
    rw [(rAll_0 e1.2.1).1] at this
    rcases this with z | z
    · exact z
    · exact absurd z rBody_6
  have ee : e = E := by
    by_cases c : e ≤ K - 1
    · exact HV_u (BE_HV hB c hg) hV
    · exfalso
      have e1 := hB.2.2.1 E (by have := hV.1; omega) hE (by omega)
      exact hV.2.2.2.2 (by omega) rz e1.2.1
  subst ee
  have t := (hB.2.2.2 (K - 1 - e) (by omega)).1
  rw [show e + (K - 1 - e) = K - 1 by omega] at t
  exact ⟨t, t.1, rz⟩
theorem hR_nf {s p he o : Nat → Nat} {E : Nat} (hD : ED s E p he o) (c1 : he 13 = 0) : hRight he = rgt s E p he := by
  obtain ⟨⟨e1, _⟩, hd⟩ := hD
  obtain ⟨_, _, _, _, _, _, _, _, _, _, b2, b3, _, _⟩ := PI_b e1
  obtain ⟨d1, d2, d3⟩ := hd.resolve_left (by omega)
  have f11 := (PI_x.mp e1).2.2.2.2.2.2.2.2.2.2.1
  have f12 := (PI_x.mp e1).2.2.2.2.2.2.2.2.2.2.2
  unfold hRight rgt
  rw [if_pos c1, if_neg (by omega)]
  have a : he 18 = num p (he 17) 15 := by rw [f11, d3, show he 17 + 15 - he 17 = 15 by omega]
  have b : he 7 = crcF (2 ^ 14) 17817 0 p (he 17) := by rw [f12, show min (he 5) (he 17) = he 17 by omega]
  rw [a, b]
theorem hR_fx {s p he g : Nat → Nat} {E : Nat} (hF : FX s E he g (Wd he)) (c1 : he 13 = 1) : hRight g = rgt s E p he := by
  obtain ⟨f2, f19, f18, f8, f9, l8, l9, fr⟩ := hF
  have g13 := fr 13 (by omega) (by omega) (by omega) (by omega) (by omega) (by omega) (by omega)
  have g16 := fr 16 (by omega) (by omega) (by omega) (by omega) (by omega) (by omega) (by omega)
  have wb := Wd_b he
  rw [show E + (min (Wd he) 5 - 1) = E + 4 by omega] at f8 f9
  unfold hRight rgt
  rw [if_neg (by omega), if_pos c1, f18, g16]
  unfold wdH
  rw [if_pos c1]
  by_cases d : 16 < he 16
  · rw [if_pos d, if_pos d, f9]
    rfl
  · rw [if_neg d, if_neg d, f8]
    rfl
theorem m_cnt : ∀ n, n < 8 → ∀ (M : mwM) (L : mwL) (fu : Nat), (mb3 (DX12_parity fu (sI n ^^^ (sI n / 2)) M L) (fun r7 M5 L6 => some ((2 * (sI n ^^^ (sI n / 2))) + r7, M5, L6)) : Option (Int32 × mwM × mwL)) = some (sI (cntF n), M, L) := by
  intro n hn M L fu
  unfold DX12_parity
  rcases (show n = 0 ∨ n = 1 ∨ n = 2 ∨ n = 3 ∨ n = 4 ∨ n = 5 ∨ n = 6 ∨ n = 7 by omega) with rfl | rfl | rfl | rfl | rfl | rfl | rfl | rfl <;> rfl
theorem m_countOf {fu x : Nat} {M : mwM} {L : mwL} (hx : x < 2000000000) : DX12_countOf fu (sI x) M L = some (sI (cntF x), M, L) := by
  unfold DX12_countOf
  rw [show sI x - sI x / 8 * 8 = sI (x % 8) from sI_mod (b := 8) hx (by omega)]
  simp only [mlet]
  rw [m_cnt _ (Nat.mod_lt _ (by decide))]
  unfold cntF
  rw [Nat.mod_mod]
def rmI (r : Nat) : Int32 := if r = 0 then -1 else if r = 6 then 10 else if r = 7 then 11 else sI r
theorem sI_mm (a : Nat) : sI a - sI (a + 1) = -1 := by
  apply Int32.toBitVec_inj.mp
  show BitVec.ofNat 32 a - BitVec.ofNat 32 (a + 1) = (-1 : Int32).toBitVec
  apply BitVec.eq_of_toNat_eq
  rw [BitVec.toNat_sub, BitVec.toNat_ofNat, BitVec.toNat_ofNat, show ((-1 : Int32).toBitVec).toNat = 4294967295 by decide]
  omega
def rLast (s : Nat → Nat) (K : Nat) : Nat := if K = 1 then 0 else rAll (s (K - 1)) (hq s (K - 1))
theorem CAs_CA {M : mwM} {s : Nat → Nat} {K E : Nat} (hV : CaV s K E) (h : CAs M s K E) : CA M := Or.inr ⟨s, K, E, hV, h.1, h.2.1, h.2.2⟩
/-- the check leaves what is remembered -/
theorem CA_right {M M' : mwM} {s : Nat → Nat} {K E : Nat} (hV : CaV s K E) (hE : E ≤ K) (h : CAs M s K E) (h1 : hq s E 13 = 1 → M' 821 48 = -1) (hf : ∀ a y, ¬ (a = 821 ∧ (y = 41 ∨ (y = 48 ∧ hq s E 13 = 1))) → a ≠ 852 → M' a y = M a y) : CA M' := by
  by_cases c : hq s E 13 = 1
  · exact Or.inl (h1 c)
  · obtain ⟨c1, c2, c3⟩ := h
    refine Or.inr ⟨s, K, E, hV, by rw [hf 821 48 (by omega) (by omega)]; exact c1, fun i u => by rw [hf 853 i (by omega) (by omega)]; exact c2 i u, ?_⟩
    rw [hf 821 49 (by omega) (by omega)]
    rcases c3 with z | z | z
    · exact Or.inl z
    · refine Or.inr (Or.inl ⟨z.1, z.2.1, z.2.2.1, by rw [hf 821 45 (by omega) (by omega)]; exact z.2.2.2.1, ?_⟩)
      obtain ⟨m1, m2, m3, m4, m5, m6, m7⟩ := z.2.2.2.2
      refine ⟨?_, fun i u => ?_, ?_, ?_, ?_, ?_, fun w => absurd w c⟩
      · rw [hf 821 34 (by omega) (by omega)]; exact m1
      · rw [hf 848 i (by omega) (by omega)]; exact m2 i u
      · rw [hf 821 46 (by omega) (by omega)]; exact m3
      · rw [hf 821 42 (by omega) (by omega)]; exact m4
      · rw [hf 821 43 (by omega) (by omega)]; exact m5
      · rw [hf 821 44 (by omega) (by omega)]; exact m6
    · exact Or.inr (Or.inr ⟨z.1, z.2.1, by rw [hf 821 45 (by omega) (by omega)]; exact z.2.2⟩)
theorem m_read {fu n K E : Nat} {s : Nat → Nat} {M : mwM} {L : mwL} (hfu : 1300 ≤ fu) (hn : n < 7) (h836 : M 836 n = sI K) (hse : ∀ i, i < K → M 837 (1200 * n + i) = sI (s i)) (h0 : s 0 = 0) (hV : CaV s K E) (hg : Gd s (K - 1)) (hC : CA M) : wq (DX12_read fu (sI n) M L) (fun z => z.1 = rmI (rLast s K) ∧ z.2.2 = L ∧ bF M z.2.1 ∧ CA z.2.1) := by
  obtain ⟨k1, k2, k3, hHV⟩ := hV
  have hV : CaV s K E := ⟨k1, k2, k3, hHV⟩
  obtain ⟨a1, a2, a3, a4, a5⟩ := hHV
  have hHV : HV s K E := ⟨a1, a2, a3, a4, a5⟩
  unfold DX12_read
  refine wq_b3 (m_body hfu hn h836 hse h0 hV hC) ?_
  rintro r M1 L1 ⟨y1, y2, y3, y4⟩
  dsimp only at y1 y2 y3 y4
  subst y1
  have hca := CAs_CA hV y3
  obtain ⟨y5, y6, y7⟩ := y3
  rw [y4] at y7
  unfold fX12_read_b19
  rcases y7 with ⟨z1, z2, z3⟩ | ⟨z1, z2, z3, z4, z5⟩ | ⟨z1, z2, z3⟩
  · -- an error in the body
    have eK : E = K := by
      by_cases c : E = K
      · exact c
      · exact absurd (HV_ET hHV (by omega) (by omega) h0 k3 hg).2.2 z2
    subst eK
    have hl : rLast s E = rBody (s (E - 1)) (hq s (E - 1)) := by
      unfold rLast
      rw [if_neg (by omega), (rAll_0 (a3 (E - 1) (by omega) (by omega) (by omega)).2.1).1]
    have r12 : rBody (s (E - 1)) (hq s (E - 1)) = 1 ∨ rBody (s (E - 1)) (hq s (E - 1)) = 2 := by
      unfold rBody at z2 ⊢
      by_cases c : hq s (E - 1) 3 = 5
      · rw [if_pos c] at z2 ⊢
        split
        · exact Or.inl rfl
        · rename_i w
          rw [if_neg w] at z2
          omega
      · rw [if_neg c] at z2 ⊢
        by_cases w : s (E - 1) = 1 ∧ hPl0 (s (E - 1)) (hq s (E - 1)) 13 = 1 ∧ hq s (E - 1) 5 = (if hPl0 (s (E - 1)) (hq s (E - 1)) 12 = 1 then 34 else 15)
        · rw [if_pos w]
          exact Or.inr rfl
        · rw [if_neg w] at z2
          omega
    rw [z3, hl, if_neg (fun w => sI_m1n (by omega) w.symm)]
    refine wq_some ⟨?_, rfl, y2, hca⟩
    dsimp only
    unfold rmI
    rw [if_neg (by omega), if_neg (by omega), if_neg (by omega)]
  · -- the body has ended
    subst z3
    rw [if_pos rfl, z4, if_neg (fun w => sI_m1n (by omega) w.symm), mck_s (by omega) (by omega), sI_nn (by omega), y2 836 n (by omega) (by omega) (by omega) (by omega), h836, show sI K - 1 = sI (K - 1) from sI_sub (b := 1) (by omega)]
    simp only [mlet]
    have bt : ∀ (X : mwM), (∀ a y, a = 837 → X a y = M a y) → ∀ i, i < K → DX12_bitAt fu (sI n) (sI i) X L1 = some (sI (s i), X, L1) := fun X hX i u => m_bitAt hn (by omega) (by rw [hX 837 _ rfl]; exact hse i u)
    have f837 : ∀ a y, a = 837 → M1 a y = M a y := fun a y u => y2 a y (by omega) (by omega) (by omega) (by omega)
    rw [bt M1 f837 (K - 1) (by omega), mb3_s, z4]
    by_cases cE : E = K
    · -- right now
      rw [cE, show sI (K - 1) - sI K = -1 by have := sI_mm (K - 1); rw [show K - 1 + 1 = K by omega] at this; exact this, if_neg (show ¬ (0 : Int32) ≤ -1 by decide)]
      refine wq_some ⟨?_, rfl, y2, hca⟩
      dsimp only
      have hl : rLast s K = 0 := by
        unfold rLast
        rw [if_neg (by omega), (rAll_0 (a3 (K - 1) (by omega) (by omega) (by omega)).2.1).1, ← cE]
        exact z2
      rw [hl]
      rfl
    · obtain ⟨hT, hD, _⟩ := HV_ET hHV (by omega) (by omega) h0 k3 hg
      have hl : rLast s K = rAll (s (K - 1)) (hq s (K - 1)) := by
        unfold rLast
        rw [if_neg (by omega)]
      rw [hl]
      have hD' := hD
      obtain ⟨⟨e1, e2, e3, e4, e5, e6, _⟩, hd⟩ := hD'
      obtain ⟨w11, w12, w13, _, _, w16, _, w14, _, _, b2, b3, _, _⟩ := PI_b e1
      have k17 : hq s E 17 < 100000 := by
        by_cases y : hq s E 17 < 100000
        · exact y
        · have := b3 (by omega)
          omega
      have kk := b2 k17
      obtain ⟨m1, m2, m3, m4, m5, m6, m7⟩ := z5
      have hb := k3 (K - 1) (by omega)
      have wb := Wd_b (hq s E)
      obtain ⟨j, hj⟩ : ∃ j, j = K - 1 - E := ⟨_, rfl⟩
      have hT2 := hT.2
      rw [← hj] at hT2
      rw [sI_sub (by omega), ← hj, if_pos (show 0 ≤ sI j by rw [sI_lle (by decide) (by omega)]; omega), m_tail e1 k17 m4 m5, mb3_s, m_tail e1 k17 m4 m5, mb3_s]
      have hcas : CAs M1 s K E := ⟨y5, y6, by rw [y4]; exact Or.inr (Or.inl ⟨z1, z2, rfl, z4, ⟨m1, m2, m3, m4, m5, m6, m7⟩⟩)⟩
      -- behind all of it
      have tail : ∀ (h : Nat → Nat) (i : Nat), h 1 = 2 → h 6 = i → i ≤ 9 → j = tlH (hq s E) + i → hRight h = rgt s E (pq s E) (hq s E) → (hq s E 13 = 1 → i ≥ 0 ∧ E + Wd (hq s E) ≤ K) → wq (if sI i = 1 then some ((-1 : Int32), M1, L1) else if sI i = 9 then (if sI (s (K - 1)) = 1 then fX12_read_b191 fu (sI n) 11 M1 L1 else fX12_read_b191 fu (sI n) 5 M1 L1) else if sI (s (K - 1)) = 0 then some (2, M1, L1) else if sI i = 2 then mb3 (DX12_right fu (sI n) M1 L1) (fun r40 M38 L39 => if r40 = 0 then fX12_read_b218 fu (sI n) 3 M38 L39 else fX12_read_b218 fu (sI n) (-1) M38 L39) else if sI i = 8 then fX12_read_b232 fu (sI n) 10 M1 L1 else fX12_read_b232 fu (sI n) (-1) M1 L1) (fun z => z.1 = rmI (rTail (s (K - 1)) h) ∧ z.2.2 = L1 ∧ bF M z.2.1 ∧ CA z.2.1) := by
        intro h i h1 h6 hi hji hR hw
        unfold fX12_read_b191 fX12_read_b218 fX12_read_b232 rTail
        rw [h6]
        by_cases c1 : i = 1
        · rw [if_pos (show sI i = 1 by rw [c1]; rfl), if_pos c1]
          exact wq_some ⟨rfl, rfl, y2, hca⟩
        · rw [if_neg (show ¬ sI i = 1 by rw [sI_eql (by omega) (by decide)]; exact c1), if_neg c1]
          by_cases c9 : i = 9
          · rw [if_pos (show sI i = 9 by rw [c9]; rfl)]
            by_cases cb : s (K - 1) = 0
            · rw [if_neg (show ¬ sI (s (K - 1)) = 1 by rw [sI_eql (by omega) (by decide)]; omega), if_pos cb, if_pos c9]
              exact wq_some ⟨rfl, rfl, y2, hca⟩
            · rw [if_pos (show sI (s (K - 1)) = 1 by rw [show s (K - 1) = 1 by omega]; rfl), if_neg cb, if_neg (by omega), if_neg (by omega), if_neg (by omega)]
              exact wq_some ⟨rfl, rfl, y2, hca⟩
          · rw [if_neg (show ¬ sI i = 9 by rw [sI_eql (by omega) (by decide)]; exact c9)]
            by_cases cb : s (K - 1) = 0
            · rw [if_pos (show sI (s (K - 1)) = 0 by rw [cb]; rfl), if_pos cb, if_neg c9]
              exact wq_some ⟨rfl, rfl, y2, hca⟩
            · rw [if_neg (show ¬ sI (s (K - 1)) = 0 by rw [sI_eql (by omega) (by decide)]; exact cb), if_neg cb]
              by_cases c2 : i = 2
              · rw [if_pos (show sI i = 2 by rw [c2]; rfl)]
                refine wq_b3 (m_right (L := L1) hfu hn hD (by omega) ⟨m1, m2, m3, m4, m5, m6, m7⟩ z4 (fun i u => k3 i (by omega)) (fun c i u => ⟨by rw [f837 837 _ rfl]; exact hse i (by have := hw c; omega), k3 i (by have := hw c; omega)⟩)) ?_
                rintro r2 M2 L2 ⟨t1, t2, t3, t4⟩
                dsimp only at t1 t2 t3 t4
                subst t2
                have bf2 : bF M M2 := bF_t y2 (fun a y u1 u2 u3 u4 => t4 a y (by omega) u3)
                have ca2 := CA_right hV z1 hcas t3 t4
                rw [t1, ← hR]
                cases hr : hRight h with
                | false =>
                  rw [if_pos (show bI false = 0 from rfl), if_pos ⟨c2, rfl⟩]
                  exact wq_some ⟨rfl, rfl, bf2, ca2⟩
                | true =>
                  rw [if_neg (show ¬ bI true = 0 by decide), if_neg (fun z => by cases z.2), if_neg (by omega), if_pos (by omega)]
                  exact wq_some ⟨rfl, rfl, bf2, ca2⟩
              · rw [if_neg (show ¬ sI i = 2 by rw [sI_eql (by omega) (by decide)]; exact c2), if_neg (show ¬ (i = 2 ∧ hRight h = false) from fun z => c2 z.1)]
                by_cases c8 : i = 8
                · rw [if_pos (show sI i = 8 by rw [c8]; rfl), if_pos c8]
                  exact wq_some ⟨rfl, rfl, y2, hca⟩
                · rw [if_neg (show ¬ sI i = 8 by rw [sI_eql (by omega) (by decide)]; exact c8), if_neg c8, if_pos (by omega)]
                  exact wq_some ⟨rfl, rfl, y2, hca⟩
      rcases hT2 with ⟨c1, c2, c3⟩ | ⟨c1, c2, c3, c4, c5⟩ | ⟨c1, g, c2, c3, c4, c5, c6⟩
      · have tl : tlH (hq s E) = 0 := if_neg (by omega)
        have h1 : hq s (K - 1) 1 = 2 := by
          rw [c2]
          show hq s E 1 = 2
          omega
        have h6 : hq s (K - 1) 6 = j := by rw [c2, nst_s]
        have ra : rAll (s (K - 1)) (hq s (K - 1)) = rTail (s (K - 1)) (hq s (K - 1)) := by
          unfold rAll
          rw [if_neg (by omega), if_pos h1]
        rw [tl, if_pos (show sI 0 ≤ sI j by rw [sI_le (by omega) (by omega)]; omega), sI_sub (show 0 ≤ j by omega), Nat.sub_zero, ra]
        exact tail _ j h1 h6 c3 (by omega) (by rw [c2]; exact (show hRight (hq s E) = _ from hR_nf hD c1)) (fun z => by omega)
      · have tl : tlH (hq s E) = Wd (hq s E) := if_pos c1
        have ra : rAll (s (K - 1)) (hq s (K - 1)) = rFix (s (K - 1)) (hq s (K - 1)) := by
          unfold rAll
          rw [if_pos c4]
        rw [tl, if_neg (show ¬ sI (Wd (hq s E)) ≤ sI j by rw [sI_le (by omega) (by omega)]; omega), ra, show sI j - sI j / 5 * 5 = sI (j % 5) from sI_mod (b := 5) (by omega) (by omega)]
        obtain ⟨f2, f19, f18, f8, f9, l8, l9, fr⟩ := c3
        unfold rFix
        rw [c5]
        by_cases d1 : j % 5 = 0
        · rw [if_pos (show sI (j % 5) = 0 by rw [d1]; rfl), show sI (K - 1) - 1 = sI (K - 1 - 1) from sI_sub (b := 1) (by omega), bt M1 f837 (K - 1 - 1) (by omega), mb3_s, if_pos d1, f2, show E + j - 1 = K - 1 - 1 by omega]
          unfold fX12_read_b87
          have hb2 := k3 (K - 1 - 1) (by omega)
          by_cases d2 : s (K - 1) = s (K - 1 - 1)
          · rw [if_pos (show sI (s (K - 1)) = sI (s (K - 1 - 1)) by rw [d2]), if_pos d2]
            exact wq_some ⟨rfl, rfl, y2, hca⟩
          · rw [if_neg (show ¬ sI (s (K - 1)) = sI (s (K - 1 - 1)) by rw [sI_eq (by omega) (by omega)]; exact d2), if_neg d2]
            exact wq_some ⟨rfl, rfl, y2, hca⟩
        · rw [if_neg (show ¬ sI (j % 5) = 0 by rw [sI_eql (by omega) (by decide)]; exact d1), if_neg d1]
          by_cases d2 : j = 4
          · -- the count
            have h4 : hq s (K - 1) 4 = hq s E 4 := fr 4 (by omega) (by omega) (by omega) (by omega) (by omega) (by omega) (by omega)
            have n4 : 2 * hq s (K - 1) 19 + s (K - 1) = num (fun i => s (E + i)) 1 4 := by
              rw [f19, d2]
              show _ = 2 * num (fun i => s (E + i)) 1 3 + s (E + (1 + 3))
              rw [show E + (1 + 3) = K - 1 by omega]
              rfl
            have nl : num (fun i => s (E + i)) 1 4 < 2 ^ 4 := num_lt 4 (fun i u1 u2 => k3 _ (by omega))
            have key : ∀ (m i f : Nat), i + m = 4 → m < f → wq (fX12_read_h94 fu (sI n) f (4, sI (num (fun i => s (E + i)) 1 i), sI (1 + i), M1, L1)) (fun z => z.1 = rmI (if j - j / 5 - 1 = 3 ∧ 2 * hq s (K - 1) 19 + s (K - 1) ≠ cntF (hq s (K - 1) 4) then 1 else 0) ∧ z.2.2 = L1 ∧ bF M z.2.1 ∧ CA z.2.1) := by
              intro m
              induction m with
              | zero =>
                intro i f hi hf1
                obtain ⟨g, rfl⟩ : ∃ g, f = g + 1 := ⟨f - 1, by omega⟩
                have : i = 4 := by omega
                subst this
                unfold fX12_read_h94
                rw [mloop_S]
                show wq (fX12_read_i94 fu (sI n) _ 4 (sI (num (fun i => s (E + i)) 1 4)) (sI (1 + 4)) M1 L1) _
                unfold fX12_read_i94 fX12_read_b131 fX12_read_b153 fX12_read_b154
                have cl := cntF_lt (hq s E 4)
                rw [if_pos (by decide), if_pos rfl, m3, m_countOf (by omega), mb3_s, n4, h4]
                by_cases d3 : num (fun i => s (E + i)) 1 4 = cntF (hq s E 4)
                · rw [if_pos (by rw [d3]), if_neg (fun z => z.2 d3)]
                  exact wq_some ⟨rfl, rfl, y2, hca⟩
                · rw [if_neg (by rw [sI_eq (by omega) (by omega)]; exact d3), if_pos ⟨by omega, d3⟩]
                  exact wq_some ⟨rfl, rfl, y2, hca⟩
              | succ m ih =>
                intro i f hi hf1
                obtain ⟨g, rfl⟩ : ∃ g, f = g + 1 := ⟨f - 1, by omega⟩
                unfold fX12_read_h94
                rw [mloop_S]
                show wq (fX12_read_i94 fu (sI n) (fX12_read_h94 fu (sI n) g) 4 (sI (num (fun i => s (E + i)) 1 i)) (sI (1 + i)) M1 L1) _
                unfold fX12_read_i94
                rw [if_neg (by rw [sI_lle (by decide) (by omega)]; omega), if_pos rfl, z4, sI_add, bt M1 f837 (E + (1 + i)) (by omega), mb3_s, sI_lml, sI_add, sI_1]
                simp only [mlet]
                exact ih (i + 1) g (by omega) (by omega)
            rw [show sI j = 4 by rw [d2]; rfl]
            exact key 4 0 fu (by omega) (by omega)
          · obtain ⟨f, rfl⟩ : ∃ f, fu = f + 1 := ⟨fu - 1, by omega⟩
            unfold fX12_read_h94
            rw [mloop_S]
            show wq (fX12_read_i94 (f + 1) (sI n) _ (sI j) 0 1 M1 L1) _
            unfold fX12_read_i94 fX12_read_b131 fX12_read_b153 fX12_read_b154
            have n4 : ¬ sI j = 4 := by rw [sI_eql (by omega) (by decide)]; exact d2
            rw [if_neg (show ¬ (5 : Int32) ≤ 1 by decide), if_neg n4, if_neg n4, if_neg (show ¬ (j - j / 5 - 1 = 3 ∧ 2 * hq s (K - 1) 19 + s (K - 1) ≠ cntF (hq s (K - 1) 4)) from fun z => by omega)]
            exact wq_some ⟨rfl, rfl, y2, hca⟩
      · have tl : tlH (hq s E) = Wd (hq s E) := if_pos c1
        have h1 : hq s (K - 1) 1 = 2 := by rw [c6]; exact c3
        have h6 : hq s (K - 1) 6 = j - Wd (hq s E) := by rw [c6, nst_s]
        have ra : rAll (s (K - 1)) (hq s (K - 1)) = rTail (s (K - 1)) (hq s (K - 1)) := by
          unfold rAll
          rw [if_neg (by omega), if_pos h1]
        rw [tl, if_pos (show sI (Wd (hq s E)) ≤ sI j by rw [sI_le (by omega) (by omega)]; exact c4), sI_sub c4, ra]
        exact tail _ _ h1 h6 c5 (by omega) (by rw [c6]; exact (show hRight g = _ from hR_fx c2 c1)) (fun _ => ⟨by omega, by omega⟩)
  · -- it goes on
    subst z2
    rw [if_pos rfl, z3, if_pos rfl]
    refine wq_some ⟨?_, rfl, y2, hca⟩
    dsimp only
    have hl : rLast s K = 0 := by
      unfold rLast
      by_cases c : K = 1
      · rw [if_pos c]
      · rw [if_neg c, (rAll_0 (a3 (K - 1) (by omega) (by omega) (by omega)).2.1).1]
        exact a4 (K - 1) (by omega) (by omega) (by omega)
    rw [hl]
    rfl
