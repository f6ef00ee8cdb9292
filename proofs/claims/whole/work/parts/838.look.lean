/-! which frame has come -/
theorem c_frameOf {fu id S F : Nat} {d : Nat → Nat → Nat} {tu : Nat → Bool} {A M : mwM} {L : mwL} (hS : FrS A M S F d tu) (hid : id < 2048) : (∃ f, f < F ∧ id = 64 + 8 * posf (d 11) F f ∧ DX6_frameOf fu (sI id) A L = some (sI f, A, L)) ∨ ((∀ f, f < F → id ≠ 64 + 8 * posf (d 11) F f) ∧ DX6_frameOf fu (sI id) A L = some (-1, A, L)) := by
  have hF40 := hS.2.2.2.2.2.1
  unfold DX6_frameOf fX6_frameOf_b29
  rw [mlet_e]
  by_cases c1 : id < 64
  · right
    refine ⟨fun f hf => by omega, ?_⟩
    rw [if_pos (by rw [sI_ltl (by omega) (by decide)]; exact c1)]
  · rw [if_neg (by rw [sI_ltl (by omega) (by decide)]; exact c1)]
    have em : sI id - sI id / 8 * 8 = sI (id % 8) := sI_mod (b := 8) (by omega) (by omega)
    have es : sI id - 64 = sI (id - 64) := sI_sub (b := 64) (by omega)
    have ed : sI (id - 64) / 8 = sI ((id - 64) / 8) := sI_div (b := 8) (by omega) (by omega)
    rw [em, es, ed]
    by_cases c2 : id % 8 = 0
    · rw [if_pos (by rw [c2]; rfl), hS.2.2.2.1]
      by_cases c3 : (id - 64) / 8 < F
      · left
        obtain ⟨f, f1, f2⟩ := posf_sur (ev := d 11) c3
        refine ⟨f, f1, by omega, ?_⟩
        obtain ⟨_, _, b2, _⟩ := hS.2.2.2.2.2.2.1 f f1
        rw [f2] at b2
        rw [if_pos (by rw [sI_lt (by omega) (by omega)]; exact c3), mck_s (by omega) (by omega), sI_nn (by omega), b2]
      · right
        refine ⟨fun f hf => ?_, ?_⟩
        · have := posf_lt (ev := d 11) hf
          omega
        · rw [if_neg (by rw [sI_lt (by omega) (by omega)]; exact c3)]
    · right
      refine ⟨fun f hf => by omega, ?_⟩
      rw [if_neg (by rw [show (0 : Int32) = sI 0 from rfl, sI_eq (by omega) (by omega)]; exact c2)]
/-- the reference looks at frames that don't match -/
theorem m_skip126 {fu c C id S F : Nat} {v2 : Int32} {d : Nat → Nat → Nat} {tu : Nat → Bool} {A M : mwM} {L : mwL} (rr : (Int32 × mwM × mwL) → Option (mwM × mwL)) (hS : FrS A M S F d tu) (hC : M 732 19 = sI C) (hC7 : C ≤ 6) (hc : c < C) (hid : id < 2048) : ∀ (r f q : Nat), f + r ≤ F → r < q → (∀ g, f ≤ g → g < f + r → id ≠ 64 + 8 * posf (d 11) F g) → fX19_lookAt_h126 fu (sI c) rr q (v2, sI id, sI f, M, L) = fX19_lookAt_h126 fu (sI c) rr (q - r) (v2, sI id, sI (f + r), M, L) := by
  have hF40 := hS.2.2.2.2.2.1
  intro r
  induction r with
  | zero => intro f q _ _ _; rfl
  | succ r ih =>
    intro f q hf hq hn
    obtain ⟨q', rfl⟩ : ∃ y, q = y + 1 := ⟨q - 1, by omega⟩
    have un : fX19_lookAt_h126 fu (sI c) rr (q' + 1) (v2, sI id, sI f, M, L) = fX19_lookAt_i126 fu (sI c) rr (fX19_lookAt_h126 fu (sI c) rr q') v2 (sI id) (sI f) M L := rfl
    obtain ⟨_, _, _, b3⟩ := hS.2.2.2.2.2.2.1 f (by omega)
    have hp := posf_lt (ev := d 11) (show f < F by omega)
    have nx := ih (f + 1) q' (by omega) (by omega) (fun g g1 g2 => hn g (by omega) (by omega))
    rw [un]
    unfold fX19_lookAt_i126 fX19_lookAt_b168
    rw [hS.2.2.2.2.1, if_neg (show ¬ sI F ≤ sI f by rw [sI_le (by omega) (by omega)]; omega), hC, if_neg (show ¬ sI C ≤ sI c by rw [sI_le (by omega) (by omega)]; omega), mck_s (by omega) (by omega), sI_nn (by omega), b3, sI_lml, sI_lad, if_neg (by rw [sI_eq (by omega) (by omega)]; exact hn f (by omega) (by omega)), mlet_e, sI_1, nx, show q' + 1 - (r + 1) = q' - r from by omega, show f + 1 + r = f + (r + 1) from by omega]
theorem m_end126 {fu c C id S F q : Nat} {v2 : Int32} {d : Nat → Nat → Nat} {tu : Nat → Bool} {A M : mwM} {L : mwL} (rr : (Int32 × mwM × mwL) → Option (mwM × mwL)) (hS : FrS A M S F d tu) (hC : M 732 19 = sI C) : fX19_lookAt_h126 fu (sI c) rr (q + 1) (v2, sI id, sI F, M, L) = rr (v2, M, L) := by
  have hF40 := hS.2.2.2.2.2.1
  show fX19_lookAt_i126 fu (sI c) rr (fX19_lookAt_h126 fu (sI c) rr q) v2 (sI id) (sI F) M L = _
  unfold fX19_lookAt_i126 fX19_lookAt_b174 fX19_lookAt_b214
  rw [hS.2.2.2.2.1, if_pos (by rw [sI_le (by omega) (by omega)]; omega)]
/-- a frame of signals, on both sides -/
theorem st_signals {fu c C id row n3 S F W R X t E : Nat} {v2 : Int32} {d : Nat → Nat → Nat} {tu : Nat → Bool} {g : Nat → Nat → Nat} {own Sb bd ov : Nat → Nat} {A M : mwM} {Lc Lm : mwL} (rr : (Int32 × mwM × mwL) → Option (mwM × mwL)) (hfu : 300 ≤ fu) (hC : M 732 19 = sI C) (hC7 : C ≤ 6) (hc : c < C) (hid : id < 2048) (hrow : row < 61) (hn3 : 8 ≤ n3) (hn4 : n3 < 1000) (hE : E < 800000000) (hbd : bd c < 1000000000) (hB : TkB A M Lc Lm S F W R X t E d tu g own Sb bd) (hov : ∀ y, y < 8 → A row y = sI (ov y) ∧ M 926 y = sI (ov y) ∧ ov y < 256) : ∃ A' Lc' M' Lm' E', mb3 (DX6_frameOf fu (sI id) A Lc) (fun r13 M11 L12 => DX1_takeSignals fu (sI c) r13 row n3 M11 L12) = some (A', Lc') ∧ fX19_lookAt_h126 fu (sI c) rr fu (v2, sI id, 0, M, Lm) = rr (v2, M', Lm') ∧ TkB A' M' Lc' Lm' S F W R X t E' d tu g own Sb (fun x => if x = c then bd x + 64 else bd x) ∧ E ≤ E' ∧ E' ≤ E + 30 ∧ cmA A A' ∧ cmM M M' ∧ tkLc Lc Lc' ∧ cmL Lm Lm' := by
  have hS := hB.1
  have hF40 := hS.2.2.2.2.2.1
  rcases c_frameOf (fu := fu) (L := Lc) hS hid with ⟨f, f1, f2, f3⟩ | ⟨f2, f3⟩
  · obtain ⟨A', Lc', M', Lm', E', z1, z2, z3, z4, z5, z6, z7, z8, z9⟩ := st_come (fu := fu) (c := c) (f := f) hfu (by omega) f1 hrow hn3 hn4 hE hbd hB hov
    refine ⟨A', Lc', M', Lm', E', by rw [f3, mb3_s, z1], ?_, z3, z4, z5, z6, z7, z8, z9⟩
    have s1 := m_skip126 (fu := fu) (c := c) (v2 := v2) (L := Lm) rr hS hC hC7 hc hid f 0 fu (by omega) (by omega) (fun x x1 x2 => by
      rw [f2]
      intro w
      have : posf (d 11) F f = posf (d 11) F x := by omega
      have := posf_in f1 (by omega) this
      omega)
    have s1' : fX19_lookAt_h126 fu (sI c) rr fu (v2, sI id, 0, M, Lm) = _ := s1
    rw [s1', Nat.zero_add]
    obtain ⟨q, hq⟩ : ∃ q, fu - f = q + 1 := ⟨fu - f - 1, by omega⟩
    rw [hq]
    have un : fX19_lookAt_h126 fu (sI c) rr (q + 1) (v2, sI id, sI f, M, Lm) = fX19_lookAt_i126 fu (sI c) rr (fX19_lookAt_h126 fu (sI c) rr q) v2 (sI id) (sI f) M Lm := rfl
    obtain ⟨_, _, _, b3⟩ := hS.2.2.2.2.2.2.1 f f1
    have hp := posf_lt (ev := d 11) f1
    have hC' : M' 732 19 = sI C := by rw [z7 _ _ (by omega) (by omega) (by omega) (by omega) (by omega) (by omega) (by omega) (by omega) (by omega)]; exact hC
    have s2 := m_skip126 (fu := fu) (c := c) (v2 := v2) (L := Lm') rr z3.1 hC' hC7 hc hid (F - (f + 1)) (f + 1) q (by omega) (by omega) (fun x x1 x2 => by
      rw [f2]
      intro w
      have : posf (d 11) F f = posf (d 11) F x := by omega
      have := posf_in f1 (by omega) this
      omega)
    rw [un]
    unfold fX19_lookAt_i126 fX19_lookAt_b168
    rw [hS.2.2.2.2.1, if_neg (show ¬ sI F ≤ sI f by rw [sI_le (by omega) (by omega)]; omega), hC, if_neg (show ¬ sI C ≤ sI c by rw [sI_le (by omega) (by omega)]; omega), mck_s (by omega) (by omega), sI_nn (by omega), b3, sI_lml, sI_lad, if_pos (by rw [f2]), z2, mb2_s, mlet_e, sI_1, s2, show f + 1 + (F - (f + 1)) = F from by omega]
    obtain ⟨q2, hq2⟩ : ∃ x, q - (F - (f + 1)) = x + 1 := ⟨q - (F - (f + 1)) - 1, by omega⟩
    rw [hq2]
    exact m_end126 rr z3.1 hC'
  · have bdle : ∀ x, bd x ≤ (fun x => if x = c then bd x + 64 else bd x) x := fun x => by dsimp only; split <;> omega
    refine ⟨A, Lc, M, Lm, E, ?_, ?_, ?_, by omega, by omega, fun _ _ _ _ _ _ _ _ _ _ => rfl, fun _ _ _ _ _ _ _ _ _ _ _ => rfl, fun _ _ _ _ => rfl, fun _ _ _ _ _ _ => rfl⟩
    · rw [f3, mb3_s]
      unfold DX1_takeSignals
      rw [if_neg (by decide)]
    · have s1 := m_skip126 (fu := fu) (c := c) (v2 := v2) (L := Lm) rr hS hC hC7 hc hid F 0 fu (by omega) (by omega) (fun x x1 x2 => f2 x (by omega))
      have s1' : fX19_lookAt_h126 fu (sI c) rr fu (v2, sI id, 0, M, Lm) = _ := s1
      rw [s1', Nat.zero_add]
      obtain ⟨q2, hq2⟩ : ∃ x, fu - F = x + 1 := ⟨fu - F - 1, by omega⟩
      rw [hq2]
      exact m_end126 rr hS hC
    · obtain ⟨hS, hO, hR, hQ, hW, hT, hC, hK, hN, h1, h2, h16, h83, ht⟩ := hB
      exact ⟨hS, hO, hR, hQ, hW, hT, hC, hK, fun e he x hx => by
        obtain ⟨cn, n1, n2, n3'⟩ := hN e he x hx
        exact ⟨cn, Nat.le_trans n1 (bdle x), n2, n3'⟩, h1, h2, h16, h83, ht⟩
