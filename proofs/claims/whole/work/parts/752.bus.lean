/-! the reference's body: one bit -/
theorem bF0_t {A B C : mwM} (h1 : bF0 A B) (h2 : bF0 B C) : bF0 A C := fun a y u1 u2 u3 => (h2 a y u1 u2 u3).trans (h1 a y u1 u2 u3)
def fmE (b : Nat) (h : Nat → Nat) : Prop := b = 1 ∧ hPl0 b h 13 = 1 ∧ h 5 = (if hPl0 b h 12 = 1 then 34 else 15)
theorem m_bplain {fu k b S : Nat} {x v2 : Int32} {s p h : Nat → Nat} {M : mwM} {L : mwL} {r : Int32 × Int32 × Int32 × Int32 × Int32 × Int32 × Int32 × mwM × mwL → Option (Int32 × mwM × mwL)} {Q : Int32 × mwM × mwL → Prop} (hfu : 20 ≤ fu) (hI : PI p h) (hb : b < 2) (h5 : h 5 < 600) (hS : S = hPl0 b h 3) (hS2 : S ≤ 5)
    (h34 : M 821 34 = sI (h 5)) (hpl : ∀ i, i < h 5 → M 848 i = sI (p i)) (h46 : M 821 46 = sI (h 4)) (h41 : M 821 41 = sI (k + 1)) (hch : ∀ i, i < k + 1 → M 852 i = sI (s i)) (hfd : h 17 < 100000 → M 821 42 = sI (kdH h) ∧ M 821 43 = sI (h 14) ∧ M 821 44 = sI (h 10))
    (h1z : h 1 = 0)
    (q1 : fmE b h → ∀ M', bF0 M M' → Q (2, M', L))
    (q2 : ¬ fmE b h → hPl1 (hPl0 b h) 1 ≠ 0 → ∀ M', bF0 M M' → M' 821 45 = sI (k + 1) → BM M' s (k + 1) (nst p (h 5) b) (hPl0 b h) → Q (-1, M', L))
    (q3 : ¬ fmE b h → hPl1 (hPl0 b h) 1 = 0 → ∀ M', bF0 M M' → M' 821 45 = M 821 45 → BM M' s (k + 1) (nst p (h 5) b) (hPl0 b h) → wq (r (v2, sI b, sI S, sI (ckA (hPl0 b h)), sI (hPl0 b h 12), sI (hPl0 b h 13), sI (k + 1), M', L)) Q) :
    wq (fX12_bodyAnew_b135 fu x r v2 (sI (ckA h)) (sI (h 12)) (sI (h 13)) (sI k) (sI b) (sI S) M L) Q := by
  have e12 := rf_12 hI hb
  have e13 := rf_13 hI hb
  have e17 := rf_17 hI hb
  have efd := rf_fd (b := b) hI hb
  have est := rf_st (b := b) hI
  have hG := PI_s hI hb
  obtain ⟨r11, r12, r13, _, _, r16, _, r14, _, _, d2, d3, _, _⟩ := PI_b hG
  obtain ⟨_, w12, w13, _, _, _, _, _, _, _, b2, b3, _, _⟩ := PI_b hI
  have ce := rf_ce r12 r13
  have cb := caE_b r12 r13
  obtain ⟨g1, g2, g3, g4, g5, _⟩ := hPl0_n (b := b) (h := h)
  have bits := (PI_x.mp hG).1
  rw [g5] at bits
  have lck : ckA h < 50000 := by
    unfold ckA
    split
    · have := b2 (by assumption)
      omega
    · omega
  unfold fmE at q1 q2 q3
  generalize hPl0 b h = g at *
  have ab : 14 ≤ atE (g 12) ∧ atE (g 12) ≤ 33 := by unfold atE; split <;> omega
  unfold fX12_bodyAnew_b135 fX12_bodyAnew_b182
  simp only [mlet]
  rw [h34, mck_s (by omega) (by omega), sI_nn (by omega), nb2 b hb, mset_n (show ¬ (821 = 848 ∧ 34 = h 5) by omega), h34, sI_1]
  generalize hM1 : mset (mset M 848 (h 5) (sI b)) 821 34 (sI (h 5 + 1)) = M1
  have p34 : M1 821 34 = sI (h 5 + 1) := by rw [← hM1, mset_s]
  have pf : ∀ a y, ¬ (a = 848 ∧ y = h 5) → ¬ (a = 821 ∧ y = 34) → M1 a y = M a y := fun a y u1 u2 => by rw [← hM1, mset_n u2, mset_n u1]
  have ppl : ∀ i, i < h 5 + 1 → M1 848 i = sI (nst p (h 5) b i) := fun i u => by
    by_cases z : i = h 5
    · rw [z, nst_s, ← hM1, mset_n (by omega), mset_s]
    · rw [nst_n z, pf 848 i (by omega) (by omega)]
      exact hpl i (by omega)
  have bF1 : bF0 M M1 := fun a y u1 u2 u3 => pf a y (by omega) (by omega)
  rw [p34]
  -- long or not
  have toA : wq (fX12_bodyAnew_b184 fu x r v2 (sI b) (sI S) (sI (ckA h)) (sI (g 12)) (sI (h 13)) (sI k) (sI b) M1 L) Q → wq (if sI (h 5 + 1) = 14 then (if sI b = 1 then fX12_bodyAnew_b184 fu x r v2 (sI b) (sI S) (sI (ckA h)) 1 (sI (h 13)) (sI k) (sI b) M1 L else fX12_bodyAnew_b184 fu x r v2 (sI b) (sI S) (sI (ckA h)) 0 (sI (h 13)) (sI k) (sI b) M1 L) else fX12_bodyAnew_b184 fu x r v2 (sI b) (sI S) (sI (ckA h)) (sI (h 12)) (sI (h 13)) (sI k) (sI b) M1 L) Q := by
    intro hx
    by_cases c : h 5 + 1 = 14
    · rw [if_pos c] at e12
      rw [if_pos (show sI (h 5 + 1) = 14 by rw [c]; rfl)]
      rw [e12] at hx
      by_cases d : b = 1
      · rw [if_pos (show sI b = 1 by rw [d]; rfl)]
        rw [d] at hx ⊢
        exact hx
      · rw [if_neg (show ¬ sI b = 1 by rw [sI_eql (by omega) (by decide)]; exact d)]
        rw [show b = 0 by omega] at hx ⊢
        exact hx
    · rw [if_neg c] at e12
      rw [if_neg (show ¬ sI (h 5 + 1) = 14 by rw [sI_eql (by omega) (by decide)]; exact c)]
      rw [e12] at hx
      exact hx
  apply toA
  unfold fX12_bodyAnew_b184
  have toB : wq (fX12_bodyAnew_b196 fu x r v2 (sI b) (sI S) (sI (ckA h)) (sI (g 12)) (sI (h 13)) (sI k) (sI b) (sI (atE (g 12))) M1 L) Q → wq (if sI (g 12) = 0 then fX12_bodyAnew_b196 fu x r v2 (sI b) (sI S) (sI (ckA h)) (sI (g 12)) (sI (h 13)) (sI k) (sI b) 14 M1 L else fX12_bodyAnew_b196 fu x r v2 (sI b) (sI S) (sI (ckA h)) (sI (g 12)) (sI (h 13)) (sI k) (sI b) 33 M1 L) Q := by
    intro hx
    by_cases c : g 12 = 1
    · rw [if_neg (show ¬ sI (g 12) = 0 by rw [sI_eql (by omega) (by decide)]; omega)]
      rw [show atE (g 12) = 33 by unfold atE; rw [if_pos c]] at hx
      exact hx
    · rw [if_pos (show sI (g 12) = 0 by rw [show g 12 = 0 by omega]; rfl)]
      rw [show atE (g 12) = 14 by unfold atE; rw [if_neg c]] at hx
      exact hx
  apply toB
  unfold fX12_bodyAnew_b196 fX12_bodyAnew_b229
  rw [p34, sI_1]
  have toC : wq (fX12_bodyAnew_b231 fu x r v2 (sI b) (sI S) (sI (ckA h)) (sI (g 12)) (sI (g 13)) (sI k) (sI b) (sI (atE (g 12))) M1 L) Q → wq (if sI (h 5 + 1) ≤ 13 then fX12_bodyAnew_b231 fu x r v2 (sI b) (sI S) (sI (ckA h)) (sI (g 12)) (sI (h 13)) (sI k) (sI b) (sI (atE (g 12))) M1 L else if sI (h 5 + 1) = sI (atE (g 12) + 1) then (if sI b = 1 then fX12_bodyAnew_b231 fu x r v2 (sI b) (sI S) (sI (ckA h)) (sI (g 12)) 1 (sI k) (sI b) (sI (atE (g 12))) M1 L else fX12_bodyAnew_b231 fu x r v2 (sI b) (sI S) (sI (ckA h)) (sI (g 12)) 0 (sI k) (sI b) (sI (atE (g 12))) M1 L) else fX12_bodyAnew_b231 fu x r v2 (sI b) (sI S) (sI (ckA h)) (sI (g 12)) (sI (h 13)) (sI k) (sI b) (sI (atE (g 12))) M1 L) Q := by
    intro hx
    by_cases c : h 5 + 1 ≤ 13
    · rw [if_pos (show sI (h 5 + 1) ≤ 13 by rw [sI_lel (by omega) (by decide)]; exact c)]
      rw [if_neg (show ¬ (13 < h 5 + 1 ∧ h 5 + 1 = atE (g 12) + 1) by omega)] at e13
      rw [e13] at hx
      exact hx
    · rw [if_neg (show ¬ sI (h 5 + 1) ≤ 13 by rw [sI_lel (by omega) (by decide)]; exact c)]
      by_cases d : h 5 + 1 = atE (g 12) + 1
      · rw [if_pos (show 13 < h 5 + 1 ∧ h 5 + 1 = atE (g 12) + 1 by omega)] at e13
        rw [if_pos (show sI (h 5 + 1) = sI (atE (g 12) + 1) by rw [d])]
        rw [e13] at hx
        by_cases f : b = 1
        · rw [if_pos (show sI b = 1 by rw [f]; rfl)]
          rw [f] at hx ⊢
          exact hx
        · rw [if_neg (show ¬ sI b = 1 by rw [sI_eql (by omega) (by decide)]; exact f)]
          rw [show b = 0 by omega] at hx ⊢
          exact hx
      · rw [if_neg (show ¬ (13 < h 5 + 1 ∧ h 5 + 1 = atE (g 12) + 1) from fun z => d z.2)] at e13
        rw [if_neg (show ¬ sI (h 5 + 1) = sI (atE (g 12) + 1) by rw [sI_eq (by omega) (by omega)]; exact d)]
        rw [e13] at hx
        exact hx
  apply toC
  unfold fX12_bodyAnew_b231 fX12_bodyAnew_b255
  rw [p34, show sI (atE (g 12)) + 2 = sI (atE (g 12) + 2) from sI_add (b := 2)]
  -- a false flag
  have af : (h 5 = (if g 12 = 1 then 34 else 15)) = (h 5 + 1 = atE (g 12) + 2) := by
    unfold atE
    by_cases c : g 12 = 1
    · rw [if_pos c, if_pos c]
      apply propext
      omega
    · rw [if_neg c, if_neg c]
      apply propext
      omega
  rw [af] at q1 q2 q3
  -- on
  have go : ¬ (b = 1 ∧ g 13 = 1 ∧ h 5 + 1 = atE (g 12) + 2) → wq (if sI (g 13) = 0 then (if sI (g 12) = 0 then fX12_bodyAnew_b278 fu x r v2 (sI b) (sI S) (sI (ckA h)) (sI (g 12)) (sI (g 13)) (sI k) (sI (atE (g 12))) (sI (atE (g 12))) 5 M1 L else fX12_bodyAnew_b278 fu x r v2 (sI b) (sI S) (sI (ckA h)) (sI (g 12)) (sI (g 13)) (sI k) (sI (atE (g 12))) (sI (atE (g 12))) 6 M1 L) else fX12_bodyAnew_b278 fu x r v2 (sI b) (sI S) (sI (ckA h)) (sI (g 12)) (sI (g 13)) (sI k) (sI (atE (g 12))) (sI (atE (g 12))) 8 M1 L) Q := by
    intro hno
    -- the last stretch
    have last : ∀ M', bF0 M M' → M' 821 45 = M 821 45 → BM M' s (k + 1) (nst p (h 5) b) g → wq (fX12_bodyAnew_b328 fu x r v2 (sI b) (sI S) (sI (ckA g)) (sI (g 12)) (sI (g 13)) (sI k) M' L) Q := by
      intro M' hF h45 hB
      have ga : ckA g < 50000 := by
        unfold ckA
        split
        · have := d2 (by assumption)
          omega
        · omega
      have eqv : ((g 13 = 1 ∧ h 5 + 1 = ckA g) ∨ (g 13 = 0 ∧ h 5 + 1 = ckA g + 15 ∧ S < 5)) ↔ hPl1 g 1 ≠ 0 := by
        unfold hPl1
        rw [g5]
        have e1 : ∀ (c : g 13 = 1), (h 5 + 1 = sEnd g ↔ h 5 + 1 = ckA g) := fun c => by
          unfold sEnd ckA
          rw [if_pos c]
          by_cases z : g 17 < 100000
          · rw [if_pos z]
          · rw [if_neg z]
            have := d3 (by omega)
            omega
        have e2 : ∀ (c : ¬ g 13 = 1), (h 5 + 1 = sEnd g ↔ h 5 + 1 = ckA g + 15) := fun c => by
          unfold sEnd ckA
          rw [if_neg c]
          by_cases z : g 17 < 100000
          · rw [if_pos z]
          · rw [if_neg z]
            have := d3 (by omega)
            omega
        by_cases c1 : g 13 = 1
        · by_cases c2 : h 5 + 1 = sEnd g
          · rw [if_pos c2, if_pos c1]
            exact ⟨fun _ => by rw [nst_s]; omega, fun _ => Or.inl ⟨c1, (e1 c1).mp c2⟩⟩
          · rw [if_neg c2]
            constructor
            · intro z
              rcases z with z | z
              · exact absurd ((e1 c1).mpr z.2) c2
              · omega
            · intro z
              omega
        · by_cases c2 : h 5 + 1 = sEnd g
          · rw [if_pos c2, if_neg c1, ← hS]
            by_cases c3 : S < 5
            · rw [if_pos c3]
              exact ⟨fun _ => by rw [nst_s]; omega, fun _ => Or.inr ⟨by omega, (e2 c1).mp c2, c3⟩⟩
            · rw [if_neg c3]
              constructor
              · intro z
                omega
              · intro z
                omega
          · rw [if_neg c2]
            constructor
            · intro z
              rcases z with z | z
              · omega
              · exact absurd ((e2 c1).mpr z.2.1) c2
            · intro z
              omega
      refine m_b328 (P := h 5 + 1) (k := k) (by rw [hB.1, g5]) (by omega) (by omega) (by omega) r13 rfl (fun z => ?_) (fun z => ?_)
      · refine q2 hno (eqv.mp z) _ (fun a y u1 u2 u3 => by rw [mset_n (by omega)]; exact hF a y u1 u2 u3) mset_s ?_
        obtain ⟨m1, m2, m3, m4, m5, m6⟩ := hB
        refine ⟨?_, fun i u => ?_, ?_, ?_, fun i u => ?_, fun w => ?_⟩
        · rw [mset_n (by omega)]; exact m1
        · rw [mset_n (by omega)]; exact m2 i u
        · rw [mset_n (by omega)]; exact m3
        · rw [mset_n (by omega)]; exact m4
        · rw [mset_n (by omega)]; exact m5 i u
        · rw [mset_n (by omega), mset_n (by omega), mset_n (by omega)]; exact m6 w
      · refine q3 hno ?_ _ hF h45 hB
        by_cases w : hPl1 g 1 = 0
        · exact w
        · exact absurd (eqv.mpr w) z
    have b278 : ∀ d : Nat, atE (g 12) + d = caE (g 12) (g 13) + 4 → wq (fX12_bodyAnew_b278 fu x r v2 (sI b) (sI S) (sI (ckA h)) (sI (g 12)) (sI (g 13)) (sI k) (sI (atE (g 12))) (sI (atE (g 12))) (sI d) M1 L) Q := by
      intro d hd
      unfold fX12_bodyAnew_b278
      simp only [mlet]
      rw [p34, sI_add, hd]
      have stay : ¬ (atE (g 12) < h 5 + 1 ∧ h 5 + 1 = caE (g 12) (g 13) + 4) → wq (fX12_bodyAnew_b328 fu x r v2 (sI b) (sI S) (sI (ckA h)) (sI (g 12)) (sI (g 13)) (sI k) M1 L) Q := by
        intro hn
        rw [if_neg hn] at e17
        rw [← e17]
        refine last M1 bF1 (pf 821 45 (by omega) (by omega)) ⟨by rw [p34, g5], by rw [g5]; exact ppl, by rw [pf 821 46 (by omega) (by omega), h46, g4], by rw [pf 821 41 (by omega) (by omega), h41], fun i u => by rw [pf 852 i (by omega) (by omega)]; exact hch i u, fun w => ?_⟩
        have w' : h 17 < 100000 := by
          by_cases z : h 17 < 100000
          · exact z
          · exfalso
            unfold ckA at e17
            rw [if_pos w, if_neg z] at e17
            have := d2 w
            omega
        obtain ⟨y1, y2, y3⟩ := hfd w'
        obtain ⟨z1, z2, z3, z4, z5⟩ := est w'
        rw [pf 821 42 (by omega) (by omega), pf 821 43 (by omega) (by omega), pf 821 44 (by omega) (by omega), y1, y2, y3]
        unfold kdH
        rw [z1, z2, z3, z4, z5]
        exact ⟨rfl, rfl, rfl⟩
      by_cases c1 : h 5 + 1 ≤ atE (g 12)
      · rw [if_pos (show sI (h 5 + 1) ≤ sI (atE (g 12)) by rw [sI_le (by omega) (by omega)]; exact c1)]
        exact stay (by omega)
      · rw [if_neg (show ¬ sI (h 5 + 1) ≤ sI (atE (g 12)) by rw [sI_le (by omega) (by omega)]; exact c1)]
        by_cases c2 : h 5 + 1 = caE (g 12) (g 13) + 4
        · rw [if_pos (show sI (h 5 + 1) = sI (caE (g 12) (g 13) + 4) by rw [c2])]
          obtain ⟨y1, y2, y3⟩ := efd (by omega) c2
          have a33 : g 12 = 1 → atE (g 12) = 33 := fun z => by unfold atE; rw [if_pos z]
          refine wq_b2 (m_find (e := g 12) (f := g 13) (ce := caE (g 12) (g 13) + 4) (q := nst p (h 5) b) hfu r12 r13 (by omega) (by omega) (fun z => by have := a33 z; omega) (fun i u => ⟨ppl i (by omega), bits i (by omega)⟩)) ?_
          rintro M2 L2 ⟨z1, z2, z3, z4, z5⟩
          dsimp only at z1 z2 z3 z4 z5
          subst z1
          rw [← y3] at z2
          rw [show caE (g 12) (g 13) + 4 - 4 = h 5 + 1 - 4 by omega, ← y1] at z3
          rw [← y2] at z4
          rw [z2, z3, m_octetsOf r12 r13 r11 r14, mb3_s, sI_lml, sI_add]
          rw [if_pos ⟨by omega, c2⟩] at e17
          rw [← e17]
          refine last M2 (bF0_t bF1 (fun a y u1 u2 u3 => z5 a y (by omega))) (by rw [z5 821 45 (by omega), pf 821 45 (by omega) (by omega)]) ⟨by rw [z5 821 34 (by omega), p34, g5], fun i u => by rw [z5 848 i (by omega)]; exact ppl i (by omega), by rw [z5 821 46 (by omega), pf 821 46 (by omega) (by omega), h46, g4], by rw [z5 821 41 (by omega), pf 821 41 (by omega) (by omega), h41], fun i u => by rw [z5 852 i (by omega), pf 852 i (by omega) (by omega)]; exact hch i u, fun _ => ⟨z2, z3, z4⟩⟩
        · rw [if_neg (show ¬ sI (h 5 + 1) = sI (caE (g 12) (g 13) + 4) by rw [sI_eq (by omega) (by omega)]; exact c2)]
          exact stay (fun z => c2 z.2)
    by_cases c1 : g 13 = 0
    · rw [if_pos (show sI (g 13) = 0 by rw [c1]; rfl)]
      rw [if_pos c1] at ce
      by_cases c2 : g 12 = 0
      · rw [if_pos (show sI (g 12) = 0 by rw [c2]; rfl)]
        rw [if_pos c2] at ce
        exact b278 5 ce.symm
      · rw [if_neg (show ¬ sI (g 12) = 0 by rw [sI_eql (by omega) (by decide)]; exact c2)]
        rw [if_neg c2] at ce
        exact b278 6 ce.symm
    · rw [if_neg (show ¬ sI (g 13) = 0 by rw [sI_eql (by omega) (by decide)]; exact c1)]
      rw [if_neg c1] at ce
      exact b278 8 ce.symm
  by_cases c1 : h 5 + 1 = atE (g 12) + 2
  · rw [if_pos (show sI (h 5 + 1) = sI (atE (g 12) + 2) by rw [c1])]
    by_cases c2 : g 13 = 0
    · have gx := go (fun z => by omega)
      rw [if_pos (show sI (g 13) = 0 by rw [c2]; rfl)] at gx ⊢
      rw [if_pos (show sI (g 13) = 0 by rw [c2]; rfl)]
      exact gx
    · rw [if_neg (show ¬ sI (g 13) = 0 by rw [sI_eql (by omega) (by decide)]; exact c2)]
      by_cases c3 : b = 1
      · rw [if_pos (show sI b = 1 by rw [c3]; rfl)]
        exact wq_some (q1 ⟨c3, by omega, c1⟩ M1 bF1)
      · rw [if_neg (show ¬ sI b = 1 by rw [sI_eql (by omega) (by decide)]; exact c3)]
        exact go (fun z => c3 z.1)
  · rw [if_neg (show ¬ sI (h 5 + 1) = sI (atE (g 12) + 2) by rw [sI_eq (by omega) (by omega)]; exact c1)]
    exact go (fun z => c1 z.2.2)
