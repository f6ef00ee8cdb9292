/-! the ear: the stuffed bits -/
def CI (s : Nat → Nat) (K : Nat) (h : Nat → Nat) : Prop := (h 13 = 1 ∨ h 15 = 100000) → h 8 = crcF (2 ^ 16) 92251 65536 s K ∧ h 9 = crcF (2 ^ 20) 1058969 1048576 s K
def EX (s : Nat → Nat) (K : Nat) (p h o : Nat → Nat) : Prop := PI p h ∧ h 2 = s (K - 1) ∧ 1 ≤ h 3 ∧ h 3 ≤ 5 ∧ h 4 + h 5 = K ∧ 4 * h 4 + h 3 ≤ h 5 + 1 ∧ h 6 = 0 ∧ h 19 = 0 ∧ CI s K h ∧ h 8 < 131072 ∧ h 9 < 2097152 ∧ OI p (h 5) (h 15) (h 16) o
def ES (s : Nat → Nat) (K : Nat) (p h o : Nat → Nat) : Prop := EX s K p h o ∧ h 1 = 0 ∧ (h 5 < sEnd h ∨ (h 5 = sEnd h ∧ h 3 = 5 ∧ h 13 = 0))
def ED (s : Nat → Nat) (K : Nat) (p h o : Nat → Nat) : Prop := EX s K p h o ∧ ((h 13 = 1 ∧ h 1 = 1 ∧ h 5 = h 17) ∨ (h 13 = 0 ∧ h 1 = 2 ∧ h 5 = h 17 + 15))
def hBody (b : Nat) (h : Nat → Nat) : Nat → Nat := if h 3 = 5 then (if h 5 = sEnd h then nst (hStuff b h) 1 2 else hStuff b h) else hPl1 (hPl0 b h)
def rBody (b : Nat) (h : Nat → Nat) : Nat := if h 3 = 5 then (if b = h 2 then 1 else 0) else (if b = 1 ∧ hPl0 b h 13 = 1 ∧ h 5 = (if hPl0 b h 12 = 1 then 34 else 15) then 2 else 0)
def pBody (b : Nat) (p h : Nat → Nat) : Nat → Nat := if h 3 = 5 then p else nst p (h 5) b
def oBody (b : Nat) (h o : Nat → Nat) : Nat → Nat := if h 3 = 5 then o else oPlain (h 5) b h o
theorem hPlain_8 {n b : Nat} {h : Nat → Nat} (h1 : n < h 17) : hPlain n b h 8 = c17 (h 8) b ∧ hPlain n b h 9 = c21 (h 9) b := by
  have k : hC b h 8 = c17 (h 8) b ∧ hC b h 9 = c21 (h 9) b := ⟨rfl, rfl⟩
  unfold hPlain
  rw [if_pos h1]
  split
  · split
    · exact k
    · split
      · rw [hEnds_n (by omega), hEnds_n (by omega), nst_n (by omega), nst_n (by omega)]; exact k
      · rw [nst_n (by omega), nst_n (by omega)]; exact k
  · rw [hHead_n (by omega), hHead_n (by omega)]; exact k
theorem hPl0_n {b : Nat} {h : Nat → Nat} : hPl0 b h 1 = h 1 ∧ hPl0 b h 2 = b ∧ hPl0 b h 3 = (if b = h 2 then h 3 + 1 else 1) ∧ hPl0 b h 4 = h 4 ∧ hPl0 b h 5 = h 5 + 1 ∧ hPl0 b h 6 = h 6 ∧ hPl0 b h 19 = h 19 := by
  unfold hPl0
  rw [hPlain_n (by omega), hPlain_n (by omega), hPlain_n (by omega), hPlain_n (by omega), hPlain_n (by omega), hPlain_n (by omega), hPlain_n (by omega)]
  exact ⟨rfl, rfl, rfl, rfl, rfl, rfl, rfl⟩
/-- what stays known -/
theorem PI_k {p q h g : Nat → Nat} (hI : PI p h) (hG : PI q g) (hq : ∀ i, i < h 5 → q i = p i) (h5 : g 5 = h 5 + 1) (hk : h 15 < 100000) : g 12 = h 12 ∧ g 13 = h 13 ∧ g 15 = h 15 := by
  obtain ⟨i1, i2, i3, i4, i5, _⟩ := PI_x.mp hI
  obtain ⟨j1, j2, j3, j4, j5, _⟩ := PI_x.mp hG
  have at1 : atE (h 12) < h 5 := by
    by_cases z : atE (h 12) < h 5
    · exact z
    · rw [if_neg z] at i5
      omega
  have ab : 14 ≤ atE (h 12) := by unfold atE; split <;> omega
  have e12 : g 12 = h 12 := by
    rw [j3, if_pos (by omega), i3, if_pos (by omega), hq 13 (by omega)]
  have e13 : g 13 = h 13 := by
    rw [j4, e12, if_pos (by omega), i4, if_pos at1, hq _ at1]
  refine ⟨e12, e13, ?_⟩
  rw [j5, e12, e13, if_pos (by omega), i5, if_pos at1]
theorem PI_u {p h : Nat → Nat} (hI : PI p h) (hk : h 17 ≥ 100000) : h 5 < h 15 + 4 := by
  obtain ⟨_, q12, q13, _, _, _, _, _, _, _, b2, b3, _, _⟩ := PI_b hI
  have k := b3 hk
  obtain ⟨i1, i2, i3, i4, i5, i6, i7, i8, i9, _⟩ := PI_x.mp hI
  by_cases z : atE (h 12) < h 5
  · rw [if_pos z] at i5
    by_cases y : caE (h 12) (h 13) + 4 ≤ h 5
    · rw [if_pos ⟨z, y⟩] at i9
      have := ocE_le (h 13) (h 11) (h 14)
      rw [if_pos ⟨z, y⟩] at i8
      have cb := caE_b q12 q13
      have ab : atE (h 12) ≤ 33 := by unfold atE; split <;> omega
      omega
    · omega
  · rw [if_neg z] at i5
    omega
theorem EX_plain {s p h o : Nat → Nat} {K b : Nat} (hE : EX s K p h o) (h3 : h 3 < 5) (hK : 1 ≤ K) (hb : b < 2) (hs : s K = b) (he : h 5 < sEnd h) : EX s (K + 1) (nst p (h 5) b) (hPl0 b h) (oPlain (h 5) b h o) := by
  obtain ⟨e1, e2, e3, e4, e5, e6, e7, e8, e9, e10, e11, e12⟩ := hE
  obtain ⟨g1, g2, g3, g4, g5, g6, g19⟩ := hPl0_n (b := b) (h := h)
  have hG := PI_s e1 hb
  obtain ⟨_, q12, q13, q15, q17, _, _, _, _, _, b2, b3, b4, b5⟩ := PI_b e1
  have k89 : h 5 < h 17 → hPl0 b h 8 = c17 (h 8) b ∧ hPl0 b h 9 = c21 (h 9) b := fun z => hPlain_8 (n := h 5) (b := b) (h := nst (nst (nst h 3 (if b = h 2 then h 3 + 1 else 1)) 2 b) 5 (h 5 + 1)) z
  have n89 : h 17 ≤ h 5 → hPl0 b h 8 = h 8 ∧ hPl0 b h 9 = h 9 ∧ hPl0 b h 13 = h 13 ∧ hPl0 b h 15 = h 15 := fun z => by
    have e : hPl0 b h = nst (nst (nst (nst h 3 (if b = h 2 then h 3 + 1 else 1)) 2 b) 5 (h 5 + 1)) 18 (2 * h 18 + b) := hPlain_5 (show h 17 ≤ h 5 from z)
    rw [e]
    exact ⟨rfl, rfl, rfl, rfl⟩
  refine ⟨hG, by rw [g2, Nat.add_sub_cancel, hs], ?_, ?_, by rw [g4, g5]; omega, ?_, by rw [g6]; exact e7, by rw [g19]; exact e8, ?_, ?_, ?_, ?_⟩
  · rw [g3]; split <;> omega
  · rw [g3]; split <;> omega
  · rw [g3, g4, g5]; split <;> omega
  · intro hk
    by_cases z : h 5 < h 17
    · have pre : h 13 = 1 ∨ h 15 = 100000 := by
        by_cases y : h 15 < 100000
        · obtain ⟨_, y2, y3⟩ := PI_k e1 hG (fun i u => nst_n (by omega)) g5 y
          rw [y2, y3] at hk
          exact hk
        · right
          have := (PI_x.mp e1).2.2.2.2.1
          by_cases w : atE (h 12) < h 5
          · rw [if_pos w] at this
            have cb := caE_b q12 q13
            have ab : atE (h 12) ≤ 33 := by unfold atE; split <;> omega
            omega
          · rw [if_neg w] at this
            exact this
      obtain ⟨m1, m2⟩ := e9 pre
      obtain ⟨m3, m4⟩ := k89 z
      rw [m3, m4, m1, m2]
      constructor
      · show _ = crcS (2 ^ 16) 92251 (crcF (2 ^ 16) 92251 65536 s K) (s K)
        rw [hs]
        rfl
      · show _ = crcS (2 ^ 20) 1058969 (crcF (2 ^ 20) 1058969 1048576 s K) (s K)
        rw [hs]
        rfl
    · exfalso
      obtain ⟨_, _, m3, m4⟩ := n89 (by omega)
      rw [m3, m4] at hk
      have k1 : h 17 < 100000 := by
        by_cases y : h 17 < 100000
        · exact y
        · have := b3 (by omega)
          omega
      have k2 := b2 k1
      unfold sEnd at he
      rcases hk with y | y
      · rw [if_pos y] at he
        omega
      · omega
  · by_cases z : h 5 < h 17
    · rw [(k89 z).1]; exact c17_lt _ _
    · rw [(n89 (by omega)).1]; exact e10
  · by_cases z : h 5 < h 17
    · rw [(k89 z).2]; exact c21_lt _ _
    · rw [(n89 (by omega)).2.1]; exact e11
  · rw [g5]
    exact OI_s e1 hb e12
theorem EX_stuff {s p h o : Nat → Nat} {K b : Nat} (hE : EX s K p h o) (h3 : h 3 = 5) (hs : s K = b) : EX s (K + 1) p (hStuff b h) o := by
  obtain ⟨e1, e2, e3, e4, e5, e6, e7, e8, e9, e10, e11, e12⟩ := hE
  refine ⟨e1, by show b = s (K + 1 - 1); rw [Nat.add_sub_cancel, hs], by show 1 ≤ 1; omega, by show 1 ≤ 5; omega, by show h 4 + 1 + h 5 = K + 1; omega, by show 4 * (h 4 + 1) + 1 ≤ h 5 + 1; omega, e7, e8, ?_, c17_lt _ _, c21_lt _ _, e12⟩
  intro hk
  obtain ⟨m1, m2⟩ := e9 hk
  constructor
  · show c17 (h 8) b = crcS (2 ^ 16) 92251 (crcF (2 ^ 16) 92251 65536 s K) (s K)
    rw [hs, m1]
    rfl
  · show c21 (h 9) b = crcS (2 ^ 20) 1058969 (crcF (2 ^ 20) 1058969 1048576 s K) (s K)
    rw [hs, m2]
    rfl
theorem EX_1 {s p h o : Nat → Nat} {K x : Nat} (hE : EX s K p h o) : EX s K p (nst h 1 x) o := hE
theorem ES_step {s p h o : Nat → Nat} {K b : Nat} (hE : ES s K p h o) (hK : 1 ≤ K) (hb : b < 2) (hs : s K = b) (hr : rBody b h = 0) : (hBody b h 1 = 0 → ES s (K + 1) (pBody b p h) (hBody b h) (oBody b h o)) ∧ (hBody b h 1 ≠ 0 → ED s (K + 1) (pBody b p h) (hBody b h) (oBody b h o)) := by
  obtain ⟨hX, h1, hend⟩ := hE
  have hX' := hX
  obtain ⟨e1, _, _, e4, _⟩ := hX'
  obtain ⟨_, q12, q13, _, _, _, _, _, _, _, b2, b3, _, _⟩ := PI_b e1
  unfold hBody pBody oBody
  by_cases c1 : h 3 = 5
  · rw [if_pos c1, if_pos c1, if_pos c1]
    have x1 := EX_stuff hX c1 hs
    by_cases c2 : h 5 = sEnd h
    · rw [if_pos c2]
      refine ⟨fun z => by rw [nst_s] at z; omega, fun _ => ⟨EX_1 x1, Or.inr ⟨?_, nst_s, ?_⟩⟩⟩
      · show h 13 = 0
        rcases hend with z | z
        · omega
        · exact z.2.2
      · show h 5 = h 17 + 15
        rcases hend with z | z
        · omega
        · unfold sEnd at c2
          rw [if_neg (by omega)] at c2
          exact c2
    · rw [if_neg c2]
      have s1 : hStuff b h 1 = h 1 := rfl
      refine ⟨fun _ => ⟨x1, by rw [s1]; exact h1, Or.inl ?_⟩, fun z => absurd (by rw [s1]; exact h1) z⟩
      show h 5 < sEnd h
      omega
  · rw [if_neg c1, if_neg c1, if_neg c1]
    have he : h 5 < sEnd h := by
      rcases hend with z | z
      · exact z
      · omega
    have x1 := EX_plain hX (by omega) hK hb hs he
    obtain ⟨g1, g2, g3, g4, g5, g6, g19⟩ := hPl0_n (b := b) (h := h)
    have hG := PI_s e1 hb
    obtain ⟨_, r12, r13, _, _, _, _, _, _, _, d2, d3, d4, _⟩ := PI_b hG
    rw [h1] at g1
    generalize hg : hPl0 b h = g at *
    have bnd : g 5 ≤ sEnd g := by
      -- the end is not passed
      rw [g5]
      by_cases y : h 15 < 100000
      · obtain ⟨y1, y2, y3⟩ := PI_k e1 hG (fun i u => nst_n (by omega)) g5 y
        by_cases w : h 17 < 100000
        · have k1 := b2 w
          have w2 : g 17 < 100000 := by
            by_cases v : g 17 < 100000
            · exact v
            · have := d3 (by omega)
              have f9 := (PI_x.mp hG).2.2.2.2.2.2.2.2.1
              have f5 := (PI_x.mp hG).2.2.2.2.1
              by_cases u : atE (g 12) < g 5 ∧ caE (g 12) (g 13) + 4 ≤ g 5
              · rw [if_pos u] at f9
                have := ocE_le (g 13) (g 11) (g 14)
                have f8 := (PI_x.mp hG).2.2.2.2.2.2.2.1
                rw [if_pos u] at f8
                have cb := caE_b r12 r13
                have ab : atE (g 12) ≤ 33 := by unfold atE; split <;> omega
                omega
              · exfalso
                apply u
                have at1 : atE (g 12) < g 5 := by
                  by_cases t : atE (g 12) < g 5
                  · exact t
                  · rw [if_neg t] at f5
                    omega
                rw [if_pos at1] at f5
                exact ⟨at1, by omega⟩
          have k2 := d2 w2
          have e16 : g 16 = h 16 := by
            rw [← hg]
            by_cases t : h 5 < h 17
            · have e : hPl0 b h = hC b (nst (nst (nst h 3 (if b = h 2 then h 3 + 1 else 1)) 2 b) 5 (h 5 + 1)) := hPlain_2 (show h 5 < h 17 from t) (show h 15 + 4 ≤ h 5 by omega)
              rw [e]
              rfl
            · have e : hPl0 b h = nst (nst (nst (nst h 3 (if b = h 2 then h 3 + 1 else 1)) 2 b) 5 (h 5 + 1)) 18 (2 * h 18 + b) := hPlain_5 (show h 17 ≤ h 5 by omega)
              rw [e]
              rfl
          have se : sEnd g = sEnd h := by
            unfold sEnd
            rw [y2, k2.2.2.2, e16, y3, k1.2.2.2]
          omega
        · have k1 := b3 (by omega)
          have k3 := PI_u e1 (by omega)
          by_cases v : g 17 < 100000
          · have k2 := d2 v
            unfold sEnd
            split <;> omega
          · unfold sEnd
            split <;> omega
      · by_cases v : g 17 < 100000
        · have k2 := d2 v
          have z : hPl0 b h 15 = h 15 ∨ h 5 + 1 ≤ hPl0 b h 15 := hPlain_15
          rw [hg] at z
          omega
        · have := d3 (by omega)
          unfold sEnd
          split <;> omega
    unfold hPl1
    by_cases c2 : g 5 = sEnd g
    · rw [if_pos c2]
      by_cases c3 : g 13 = 1
      · rw [if_pos c3]
        refine ⟨fun z => by rw [nst_s] at z; omega, fun _ => ⟨EX_1 x1, Or.inl ⟨c3, nst_s, ?_⟩⟩⟩
        show g 5 = g 17
        unfold sEnd at c2
        rw [if_pos c3] at c2
        exact c2
      · rw [if_neg c3]
        by_cases c4 : g 3 < 5
        · rw [if_pos c4]
          refine ⟨fun z => by rw [nst_s] at z; omega, fun _ => ⟨EX_1 x1, Or.inr ⟨?_, nst_s, ?_⟩⟩⟩
          · show g 13 = 0
            omega
          · show g 5 = g 17 + 15
            unfold sEnd at c2
            rw [if_neg c3] at c2
            exact c2
        · rw [if_neg c4]
          refine ⟨fun _ => ⟨x1, g1, Or.inr ⟨c2, ?_, by omega⟩⟩, fun z => absurd g1 z⟩
          have := x1.2.2.2.1
          omega
    · rw [if_neg c2]
      exact ⟨fun _ => ⟨x1, g1, Or.inl (by omega)⟩, fun z => absurd g1 z⟩
theorem ES_0 {s p o : Nat → Nat} (h0 : s 0 = 0) (hp : p 0 = 0) : ES s 1 p h00 o := by
  refine ⟨⟨PI_0 hp, ?_, by decide, by decide, rfl, by decide, rfl, rfl, ?_, show c17 65536 0 < 131072 from c17_lt _ _, show c21 1048576 0 < 2097152 from c21_lt _ _, ?_⟩, rfl, Or.inl (by decide)⟩
  · show 0 = s 0
    rw [h0]
  · intro _
    constructor
    · show c17 65536 0 = crcS (2 ^ 16) 92251 65536 (s 0)
      rw [h0]
      rfl
    · show c21 1048576 0 = crcS (2 ^ 20) 1058969 1048576 (s 0)
      rw [h0]
      rfl
  · intro i u
    exfalso
    have : h00 16 = 0 := rfl
    omega
