/-! JOINING: frames at the start -/
theorem nxf_0 {ev : Nat} : nxf ev 0 = ev := by
  unfold nxf
  rw [show 0 - 1 = 0 from rfl, Nat.zero_div]
  omega
abbrev jnA (A A' : mwM) : Prop := ∀ a y, ¬ (70 ≤ a ∧ a ≤ 80) → ¬ (86 ≤ a ∧ a ≤ 94) → ¬ (a = 61 ∧ (y = 11 ∨ y = 13 ∨ y = 14)) → A' a y = A a y
abbrev jnM (M M' : mwM) : Prop := ∀ a y, (a < 941 ∨ 23 ≤ (a - 941) % 53 ∨ 1577 ≤ a) → ¬ (766 ≤ a ∧ a ≤ 768) → ¬ (a = 732 ∧ (y = 67 ∨ y = 11 ∨ y = 12)) → ¬ (779 ≤ a ∧ a ≤ 785) → M' a y = M a y
theorem st_packs {fu n C T X S K R W : Nat} {A M : mwM} {Lc Lm : mwL} {nl : List Nm} {ow ct : Nat → Nat} {sg : Nat → Nat → Nat} {tu : Nat → Bool} {ky rd wt : Nat → Nat → Nat} (hfu : 90000 ≤ fu) (hP : PR A M Lc Lm n C T X S K R W nl ow ct sg tu ky rd wt) (hZ : JZ A M) (hno : ∀ s, s < S → ¬ TLg (sg 0) (fun s => kyf (ky 0) (ky 1) (ky 2) (ow (ct (sg 2 s))) (sg 1 s) K 0) s) : ∃ (A' M' : mwM) (F : Nat) (d : Nat → Nat → Nat), DX6_pack fu (sI C) A Lc = some (A', Lc) ∧ DX19_join fu M Lm = some (1, M', Lm) ∧ FrS A' M' S F d tu ∧ (∀ f, f < F → HdF M' S d tu f) ∧ DyS A' M' F d 0 0 ∧ SoR A' F d 0 ∧ (∀ f, f < F → d 10 f < C) ∧ (∀ f, f < F → ∀ x, x < 6 → A' (86 + x) f = 0) ∧ d 0 = sg 0 ∧ d 1 = sg 1 ∧ d 2 = (fun s => ow (ct (sg 2 s))) ∧ d 4 = sg 2 ∧ d 5 = sg 3 ∧ (∀ q, q < 12 → ∀ y, y ≤ 40 → M' (941 + 53 * q + 8) y = 0) ∧ jnA A A' ∧ jnM M M' := by
  obtain ⟨sB, sM, own⟩ := pr_sg hP
  obtain ⟨⟨c1, c2, c3⟩, pT, pX, pB, ⟨s1, s2, s3, s4⟩, ⟨kC, kM, kk⟩, pR, pW, pN, nB⟩ := id hP
  have hX12 := pX.2.2.1
  obtain ⟨A1, k1, k2, k3⟩ := c_keys (fu := fu) (C := C) (L := Lc) (by omega) sB kC
  have jz : JZ A1 M := ⟨by rw [k3 _ _ (by omega)]; exact hZ.1, hZ.2.1, hZ.2.2⟩
  have lj := lk_join (fu := fu) (L := Lc) (L2 := Lm) (tu := tu) hfu c3 (ky := fun s => kyf (ky 0) (ky 1) (ky 2) (ow (ct (sg 2 s))) (sg 1 s) K 0) (fun s hs => rfl) own C 0 fu fu A1 M (by omega) (by omega) (by omega) k2 sM kM c2 (je_0 jz) (fun s hs hh => absurd hh (by omega))
  generalize hkf : (fun s => kyf (ky 0) (ky 1) (ky 2) (ow (ct (sg 2 s))) (sg 1 s) K 0) = kf at lj hno
  rcases lj with ⟨_, A2, M2, eX, eY, ⟨F, fs, os, ls, ns, fw, ev, lo, fi, j1, j2, j3, j4, j5, j6, j7, j8⟩, fA2, fM2⟩ | ⟨t, _, ht, tl, _⟩
  rotate_left
  · exact absurd tl (hno t ht)
  have F40 : F ≤ 40 := by omega
  have pk : ∀ s, s < S → pkn (ow (ct (sg 2 s))) (kf s) < 2 * C := fun s hs => by
    have := own s hs
    unfold pkn
    split <;> omega
  obtain ⟨A3, p1, p2, p3⟩ := c_findPositions (fu := fu) (F := F) (A := A2) (L := Lc) (ev := ev) (by omega) j1 F40 (fun f hf => by
    obtain ⟨⟨_, a2, _, _, _, _, _, _, _, _, _, _, _, a14, _⟩, _⟩ := j4 f hf
    exact ⟨a2, a14⟩)
  obtain ⟨M3, m1, m2, m3⟩ := m_positions (fu := fu) (F := F) (M := M2) (L := Lm) (ev := ev) (by omega) j2 F40 (fun f hf => by
    obtain ⟨⟨_, _, _, _, _, _, a7, _, _, _, _, _, _, a14, _⟩, _⟩ := j4 f hf
    exact ⟨a7, a14⟩)
  obtain ⟨m, o1, o2⟩ := c_findSoonest (fu := fu) (F := F) (A := A3) (L := Lc) (nx := ev) (by omega) (by rw [p3 _ _ (by omega) (by omega)]; exact j1) F40 (fun f hf => by
    obtain ⟨⟨_, _, _, _, _, _, _, _, _, _, _, _, _, a14, _⟩, ⟨z1, _⟩, _⟩ := j4 f hf
    exact ⟨by rw [p3 _ _ (by omega) (by omega)]; exact z1, by omega⟩)
  generalize hA4 : mset A3 61 14 (sI m) = A4 at o1
  have fA4 : ∀ a y, a ≠ 78 → a ≠ 80 → ¬ (a = 61 ∧ y = 14) → A4 a y = A2 a y := fun a y u1 u2 u3 => by rw [← hA4, mset_n (by omega), p3 a y u1 u2]
  have a14 : A4 61 14 = sI m := by rw [← hA4, mset_s]
  have jA : jnA A A4 := fun a y u1 u2 u3 => by rw [fA4 a y (by omega) (by omega) (by omega), fA2 a y (by omega) (by omega) (by omega) (by omega) (by omega), k3 a y (by omega)]
  have jM : jnM M M3 := fun a y u1 u2 u3 u4 => by rw [m3 a y (by omega), fM2 a y u1 u2 u3 (by omega)]
  -- the table
  have hd : ∃ d : Nat → Nat → Nat, d 0 = sg 0 ∧ d 1 = sg 1 ∧ d 2 = (fun s => ow (ct (sg 2 s))) ∧ d 3 = kf ∧ d 4 = sg 2 ∧ d 5 = sg 3 ∧ d 6 = fs ∧ d 7 = os ∧ d 8 = ls ∧ d 9 = ns ∧ d 10 = fw ∧ d 11 = ev ∧ d 12 = lo ∧ d 13 = fi :=
    ⟨fun i => if i = 0 then sg 0 else if i = 1 then sg 1 else if i = 2 then (fun s => ow (ct (sg 2 s))) else if i = 3 then kf else if i = 4 then sg 2 else if i = 5 then sg 3 else if i = 6 then fs else if i = 7 then os else if i = 8 then ls else if i = 9 then ns else if i = 10 then fw else if i = 11 then ev else if i = 12 then lo else fi, rfl, rfl, rfl, rfl, rfl, rfl, rfl, rfl, rfl, rfl, rfl, rfl, rfl, rfl⟩
  obtain ⟨d, d0, d1, d2, d3, d4, d5, d6, d7, d8, d9, d10, d11, d12, d13⟩ := hd
  have FrT3 : ∀ f, f < F → FrT A4 M3 f (fw f) (ev f) (lo f) (fi f) := fun f hf => by
    obtain ⟨⟨a1, a2, a3, a4, a5, a6, a7, a8, a9, a10, a11, a12, a13, a14, a15, a16, a17⟩, _⟩ := j4 f hf
    have hp := pkn_12 (y := lo f) a11
    exact ⟨by rw [fA4 _ _ (by omega) (by omega) (by omega)]; exact a1, by rw [fA4 _ _ (by omega) (by omega) (by omega)]; exact a2, by rw [fA4 _ _ (by omega) (by omega) (by omega)]; exact a3, by rw [m3 _ _ (by omega)]; exact a4, by rw [m3 _ _ (by omega)]; exact a5, by rw [m3 _ _ (by omega)]; exact a6, by rw [m3 _ _ (by omega)]; exact a7, by rw [m3 _ _ (by omega)]; exact a8, a9, a10, a11, a12, a13, a14, by rw [m3 _ _ (by omega)]; exact a15, by rw [m3 _ _ (by omega)]; exact a16, by rw [m3 _ _ (by omega)]; exact a17⟩
  have SgT3 : ∀ s, s < S → SgT A4 M3 s (fs s) (os s) (ls s) (ns s) (sg 0 s) (tu s) (ow (ct (sg 2 s))) (kf s) (fi (fs s)) := fun s hs => by
    obtain ⟨_, _, _, _, ⟨b1, b2, b3, b4, b5, b6, b7, b8, b9, b10, b11, b12, b13, b14, b15, b16⟩⟩ := j5 s hs (pk s hs)
    exact ⟨by rw [fA4 _ _ (by omega) (by omega) (by omega)]; exact b1, by rw [fA4 _ _ (by omega) (by omega) (by omega)]; exact b2, by rw [m3 _ _ (by omega)]; exact b3, by rw [m3 _ _ (by omega)]; exact b4, by rw [m3 _ _ (by omega)]; exact b5, b6, b7, b8, b9, by rw [m3 _ _ (by omega)]; exact b10, by rw [m3 _ _ (by omega)]; exact b11, by rw [m3 _ _ (by omega)]; exact b12, by rw [m3 _ _ (by omega)]; exact b13, by rw [m3 _ _ (by omega)]; exact b14, by rw [m3 _ _ (by omega)]; exact b15, by rw [m3 _ _ (by omega)]; exact b16⟩
  refine ⟨A4, M3, F, d, ?_, ?_, ⟨?_, ?_, s3, ?_, ?_, F40, fun f hf => ?_, fun s hs => ?_, fun s t hs ht hst => ?_, fun f g hf hg => ?_⟩, fun f hf => ⟨fun s hs hfs q hq => ?_, fun y hy _ => ?_⟩, fun f hf => ?_, ⟨m, a14, ?_⟩, fun f hf => ?_, fun f hf x hx => ?_, d0, d1, d2, d4, d5, fun q hq y hy => ?_, jA, jM⟩
  · rw [k1, show (0 : Int32) = sI 0 from rfl, eX, p1, mb2_s, o1, mb2_s]
  · show fX19_join_h2 fu fu (0, M, Lm) = _
    rw [show fX19_join_h2 fu fu (0, M, Lm) = fX19_join_h45 fu fu (0, M2, Lm) from eY, m1]
  · rw [jA _ _ (by omega) (by omega) (by omega)]
    exact s1
  · rw [jM _ _ (by omega) (by omega) (by omega) (by omega)]
    exact s2
  · rw [fA4 _ _ (by omega) (by omega) (by omega)]
    exact j1
  · rw [m3 _ _ (by omega)]
    exact j2
  · rw [d10, d11, d12, d13]
    exact ⟨FrT3 f hf, by rw [← hA4, mset_n (by omega)]; exact (p2 f hf).1, by rw [← hA4, mset_n (by omega)]; exact (p2 f hf).2, m2 f hf⟩
  · obtain ⟨q1, q2, q3, q4, _⟩ := j5 s hs (pk s hs)
    obtain ⟨⟨b1, b2, b3, b4⟩, ⟨b5, b6, b7, b8⟩, ⟨g1, g2, g3⟩, ⟨g4, g5, g6⟩, ⟨g7, g8⟩, _⟩ := s4 s hs
    rw [d0, d1, d2, d3, d4, d5, d6, d7, d8, d9, d10, d11, d12, d13]
    exact ⟨q1, q2, q3, q4, SgT3 s hs, by rw [jA _ _ (by omega) (by omega) (by omega)]; exact b1, by rw [jM _ _ (by omega) (by omega) (by omega) (by omega)]; exact b2, b3, b4, by rw [jA _ _ (by omega) (by omega) (by omega)]; exact g7, by rw [jM _ _ (by omega) (by omega) (by omega) (by omega)]; exact g8, by rw [jA _ _ (by omega) (by omega) (by omega)]; exact g1, by rw [jM _ _ (by omega) (by omega) (by omega) (by omega)]; exact g2, by omega, by rw [jA _ _ (by omega) (by omega) (by omega)]; exact g4, by rw [jM _ _ (by omega) (by omega) (by omega) (by omega)]; exact g5, g6, by rw [jA _ _ (by omega) (by omega) (by omega)]; exact b5, by rw [jM _ _ (by omega) (by omega) (by omega) (by omega)]; exact b6, b7, b8⟩
  · rw [d0, d6, d7]
    exact j6 s t hs ht (pk s hs) (pk t ht) hst
  · rw [d10, d12, d13]
    exact j7 f g hf hg
  · -- what a frame holds at first
    rw [d0, d7] at *
    rw [d6] at hfs
    obtain ⟨q1, q2, q3, q4, ⟨b1, b2, b3, b4, b5, b6, b7, b8, b9, _⟩⟩ := j5 s hs (pk s hs)
    obtain ⟨_, ⟨z1, z2, z3, z4, z5⟩, _⟩ := j4 f hf
    have hq2 := pqf_lt (t := tu s) hq
    refine ⟨0, ?_, Nat.pow_pos (by omega)⟩
    show M3 (941 + 53 * pkn (d 10 f) (d 12 f) + 15) ((d 13 f - 1) * cpk (d 12 f) + os s + pqf (tu s) (ocs (sg 0) s) q) = 0
    rw [d10, d12, d13, m3 _ _ (by omega), Nat.add_assoc ((fi f - 1) * cpk (lo f)) (os s)]
    apply z5
    rw [← hfs, q4]
    have : ocs (sg 0) s = (sg 0 s + 7) / 8 := rfl
    omega
  · show M3 (941 + 53 * pkn (d 10 f) (d 12 f) + 15) ((d 13 f - 1) * cpk (d 12 f) + y) = 0
    obtain ⟨_, ⟨z1, z2, z3, z4, z5⟩, _⟩ := j4 f hf
    rw [d12] at hy
    rw [d10, d12, d13, m3 _ _ (by omega)]
    exact z5 y hy
  · obtain ⟨_, ⟨z1, z2, z3, z4, z5⟩, _⟩ := j4 f hf
    rw [d11, if_neg (by omega), nxf_0, fA4 _ _ (by omega) (by omega) (by omega), fA4 _ _ (by omega) (by omega) (by omega), m3 _ _ (by omega)]
    exact ⟨⟨0, z2, z4, by omega⟩, z1⟩
  · rw [d11]
    have : (fun f => nxf (ev f) 0) = ev := by
      funext f
      exact nxf_0
    rw [this]
    exact o2
  · obtain ⟨_, _, _, s, hs, hp, hf2⟩ := j4 f hf
    obtain ⟨_, q2, _⟩ := j5 s hs (pk s hs)
    rw [d10, ← hf2, q2]
    exact own s hs
  · obtain ⟨_, ⟨z1, z2, z3, z4, z5⟩, _⟩ := j4 f hf
    rw [fA4 _ _ (by omega) (by omega) (by omega)]
    exact z3 x hx
  · rw [m3 _ _ (by omega)]
    exact j8 q hq y hy
