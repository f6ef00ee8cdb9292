/-! the ear: a row of bits -/
def hq (s : Nat → Nat) : Nat → Nat → Nat
  | 0 => h00
  | K + 1 => if K = 0 then h00 else hAll (s K) (hq s K)
def pq (s : Nat → Nat) : Nat → Nat → Nat
  | 0 => fun _ => 0
  | K + 1 => if K = 0 then (fun _ => 0) else pAll (s K) (pq s K) (hq s K)
def oq (s o0 : Nat → Nat) : Nat → Nat → Nat
  | 0 => o0
  | K + 1 => if K = 0 then o0 else oAll (s K) (hq s K) (oq s o0 K)
theorem hq_s {s : Nat → Nat} {K : Nat} (h : 1 ≤ K) : hq s (K + 1) = hAll (s K) (hq s K) := if_neg (by omega)
theorem pq_s {s : Nat → Nat} {K : Nat} (h : 1 ≤ K) : pq s (K + 1) = pAll (s K) (pq s K) (hq s K) := if_neg (by omega)
theorem oq_s {s o0 : Nat → Nat} {K : Nat} (h : 1 ≤ K) : oq s o0 (K + 1) = oAll (s K) (hq s K) (oq s o0 K) := if_neg (by omega)
def Gd (s : Nat → Nat) (K : Nat) : Prop := ∀ j, 1 ≤ j → j < K → rAll (s j) (hq s j) = 0 ∨ rAll (s j) (hq s j) = 6
def BE (s o0 : Nat → Nat) (K e : Nat) : Prop := 2 ≤ e ∧ e ≤ K + 1 ∧ (∀ j, 1 ≤ j → j ≤ K → j < e → ES s j (pq s j) (hq s j) (oq s o0 j)) ∧ ∀ i, e + i ≤ K → ET s e i (pq s e) (hq s e) (hq s (e + i)) (oq s o0 e) ∧ pq s (e + i) = pq s e ∧ oq s o0 (e + i) = oq s o0 e
theorem rBody_6 {b : Nat} {h : Nat → Nat} : rBody b h ≠ 6 := by
  unfold rBody
  split
  · split <;> omega
  · by_cases z : b = 1 ∧ hPl0 b h 13 = 1 ∧ h 5 = (if hPl0 b h 12 = 1 then 34 else 15)
    · rw [if_pos z]; decide
    · rw [if_neg z]; decide
theorem BE_K {s : Nat → Nat} (o0 : Nat → Nat) : ∀ K, 1 ≤ K → s 0 = 0 → (∀ i, i < K → s i < 2) → Gd s K → ∃ e, BE s o0 K e := by
  intro K
  induction K with
  | zero => intro h; omega
  | succ K ih =>
    intro _ h0 hs hg
    by_cases k0 : K = 0
    · subst k0
      refine ⟨2, by omega, by omega, fun j u1 u2 u3 => ?_, fun i u => by omega⟩
      have : j = 1 := by omega
      subst this
      exact ES_0 h0 rfl
    · obtain ⟨e, b1, b2, b3, b4⟩ := ih (by omega) h0 (fun i u => hs i (by omega)) (fun j u1 u2 => hg j u1 (by omega))
      have hr := hg K (by omega) (by omega)
      by_cases ce : K < e
      · have e1 := b3 K (by omega) (by omega) ce
        have e2 := e1.2.1
        have ra : rAll (s K) (hq s K) = rBody (s K) (hq s K) := by
          unfold rAll
          rw [if_neg (by omega), if_neg (by omega)]
        have ha : hAll (s K) (hq s K) = hBody (s K) (hq s K) := by
          unfold hAll
          rw [if_neg (by omega), if_neg (by omega)]
        have rz : rBody (s K) (hq s K) = 0 := by
          rw [ra] at hr
          rcases hr with z | z
          · exact z
          · exact absurd z rBody_6
        obtain ⟨q1, q2⟩ := ES_step e1 (by omega) (hs K (by omega)) rfl rz
        have hh : hq s (K + 1) = hBody (s K) (hq s K) := by rw [hq_s (by omega), ha]
        have pp : pq s (K + 1) = pBody (s K) (pq s K) (hq s K) := by
          rw [pq_s (by omega)]
          exact if_pos e2
        have oo : oq s o0 (K + 1) = oBody (s K) (hq s K) (oq s o0 K) := by
          rw [oq_s (by omega)]
          exact if_pos e2
        rw [← hh, ← pp, ← oo] at q1 q2
        by_cases cs : hq s (K + 1) 1 = 0
        · refine ⟨K + 2, by omega, by omega, fun j u1 u2 u3 => ?_, fun i u => by omega⟩
          by_cases z : j = K + 1
          · rw [z]; exact q1 cs
          · exact b3 j u1 (by omega) (by omega)
        · refine ⟨K + 1, by omega, by omega, fun j u1 u2 u3 => b3 j u1 (by omega) (by omega), fun i u => ?_⟩
          have : i = 0 := by omega
          subst this
          exact ⟨ET_0 (q2 cs), rfl, rfl⟩
      · refine ⟨e, b1, by omega, fun j u1 u2 u3 => b3 j u1 (by omega) u3, fun i u => ?_⟩
        by_cases z : e + i ≤ K
        · exact b4 i z
        · obtain ⟨i', rfl⟩ : ∃ i', i = i' + 1 := ⟨i - 1, by omega⟩
          obtain ⟨t1, t2, t3⟩ := b4 i' (by omega)
          have ek : e + i' = K := by omega
          obtain ⟨t4, t5⟩ := ET_s t1 rfl (by rw [ek]; exact hr)
          rw [show e + (i' + 1) = (e + i') + 1 by omega, hq_s (by omega), pq_s (by omega), oq_s (by omega)]
          refine ⟨t4, ?_, ?_⟩
          · rw [← t2]
            exact if_neg t5
          · rw [← t3]
            exact if_neg t5
/-- bounds in the tail -/
theorem ET_b {s p he h o : Nat → Nat} {e i : Nat} (hT : ET s e i p he h o) (hs : ∀ j, j < e + i → s j < 2) : h 2 < 2 ∧ h 1 < 3 ∧ 1 ≤ h 1 ∧ h 6 < 1000 ∧ h 13 < 2 ∧ h 16 < 1000 ∧ h 18 < 2097152 ∧ h 7 < 32768 ∧ h 8 < 131072 ∧ h 9 < 2097152 ∧ h 4 < 2000000000 ∧ (h 1 = 1 → h 19 < 1000) ∧ e < 1000 ∧ i < 50 := by
  obtain ⟨⟨⟨e1, e2, e3, e4, e5, e6, e7, e8, e9, e10, e11, e12⟩, hd⟩, hc⟩ := hT
  obtain ⟨_, q12, q13, q15, q17, q16, q7, _, _, _, b2, b3, b4, b5⟩ := PI_b e1
  have f11 := (PI_x.mp e1).2.2.2.2.2.2.2.2.2.2.1
  have f1 := (PI_x.mp e1).1
  have k17 : he 17 < 100000 := by
    by_cases y : he 17 < 100000
    · exact y
    · have := b3 (by omega)
      omega
  have k := b2 k17
  have l4 : he 4 < 1000 ∧ e < 1000 := by omega
  have wb := Wd_b he
  have l2 : he 2 < 2 := by rw [e2]; exact hs _ (by omega)
  rcases hc with ⟨c1, c2, c3⟩ | ⟨c1, c2, c3, c4, c5⟩ | ⟨c1, g, c2, c3, c4, c5, c6⟩
  · have d := hd.resolve_left (by omega)
    have l18 : he 18 < 2097152 := by
      rw [f11, d.2.2, show he 17 + 15 - he 17 = 15 by omega]
      have := num_lt (p := p) (a := he 17) 15 (fun j u1 u2 => f1 j (by omega))
      omega
    have h6 : h 6 = i := by rw [c2, nst_s]
    rw [h6]
    rw [c2]
    refine ⟨l2, ?_, ?_, by omega, by show he 13 < 2; omega, by show he 16 < 1000; omega, l18, q7, e10, e11, by show he 4 < 2000000000; omega, fun z => by show he 19 < 1000; omega, l4.2, by omega⟩
    · show he 1 < 3
      omega
    · show 1 ≤ he 1
      omega
  · obtain ⟨f2, f19, f18, f8, f9, l8, l9, fr⟩ := c3
    have g13 := fr 13 (by omega) (by omega) (by omega) (by omega) (by omega) (by omega) (by omega)
    have g16 := fr 16 (by omega) (by omega) (by omega) (by omega) (by omega) (by omega) (by omega)
    have g7 := fr 7 (by omega) (by omega) (by omega) (by omega) (by omega) (by omega) (by omega)
    have g4 := fr 4 (by omega) (by omega) (by omega) (by omega) (by omega) (by omega) (by omega)
    have t1 := tld_lt (s := s) (e := e) i (fun j u => hs j (by omega))
    have t2 : 2 ^ (i - (i + 4) / 5 - 4) ≤ 2 ^ 21 := Nat.pow_le_pow_right (by omega) (by omega)
    have t3 := num_lt (p := fun j => s (e + j)) (a := 1) (min i 5 - 1) (fun j u1 u2 => hs _ (by omega))
    have t4 : 2 ^ (min i 5 - 1) ≤ 2 ^ 4 := Nat.pow_le_pow_right (by omega) (by omega)
    refine ⟨?_, by omega, by omega, by omega, by omega, by omega, by omega, by omega, l8, l9, by omega, fun _ => by omega, l4.2, by omega⟩
    rw [f2]
    exact hs _ (by omega)
  · obtain ⟨f2, f19, f18, f8, f9, l8, l9, fr⟩ := c2
    have g13 := fr 13 (by omega) (by omega) (by omega) (by omega) (by omega) (by omega) (by omega)
    have g16 := fr 16 (by omega) (by omega) (by omega) (by omega) (by omega) (by omega) (by omega)
    have g7 := fr 7 (by omega) (by omega) (by omega) (by omega) (by omega) (by omega) (by omega)
    have g4 := fr 4 (by omega) (by omega) (by omega) (by omega) (by omega) (by omega) (by omega)
    have t1 := tld_lt (s := s) (e := e) (Wd he) (fun j u => hs j (by omega))
    have t2 : 2 ^ (Wd he - (Wd he + 4) / 5 - 4) ≤ 2 ^ 21 := Nat.pow_le_pow_right (by omega) (by omega)
    have h6 : h 6 = i - Wd he := by rw [c6, nst_s]
    rw [h6]
    rw [c6]
    refine ⟨?_, by show g 1 < 3; omega, by show 1 ≤ g 1; omega, by omega, by show g 13 < 2; omega, by show g 16 < 1000; omega, by show g 18 < 2097152; omega, by show g 7 < 32768; omega, l8, l9, by show g 4 < 2000000000; omega, fun z => ?_, l4.2, by omega⟩
    · show g 2 < 2
      rw [f2]
      exact hs _ (by omega)
    · have z' : g 1 = 1 := z
      omega
theorem c_hearK {fu k K : Nat} {s o0 : Nat → Nat} {A : mwM} {L : mwL} (hE : EaR A k (hq s K)) (hO : OcR A k (oq s o0 K)) (hK : 1 ≤ K) (h0 : s 0 = 0) (hs : ∀ i, i ≤ K → s i < 2) (hg : Gd s K) : wq (DX5_hear fu k (sI (s K)) A L) (fun z => z.1 = rI (rAll (s K) (hq s K)) ∧ z.2.2 = L ∧ ((rAll (s K) (hq s K) = 0 ∨ rAll (s K) (hq s K) = 6) → EaR z.2.1 k (hq s (K + 1)) ∧ OcR z.2.1 k (oq s o0 (K + 1))) ∧ (∃ o, OcR z.2.1 k o) ∧ ∀ a y, a ≠ k → a ≠ k + 1 → z.2.1 a y = A a y) := by
  obtain ⟨e, b1, b2, b3, b4⟩ := BE_K o0 K hK h0 (fun i u => hs i (by omega)) hg
  have hb := hs K (by omega)
  rw [hq_s hK, oq_s hK]
  by_cases ce : K < e
  · obtain ⟨⟨e1, e2, e3, e4, e5, e6, e7, e8, e9, e10, e11, e12⟩, h1, hend⟩ := b3 K hK (by omega) ce
    obtain ⟨q11, q12, q13, q15, q17, q16, q7, q14, q14b, qo, p2, p3, p4, p5⟩ := PI_b e1
    have l2 : hq s K 2 < 2 := by rw [e2]; exact hs _ (by omega)
    have ha : hAll (s K) (hq s K) = hBody (s K) (hq s K) := by
      unfold hAll
      rw [if_neg (by omega), if_neg (by omega)]
    have ra : rAll (s K) (hq s K) = rBody (s K) (hq s K) := by
      unfold rAll
      rw [if_neg (by omega), if_neg (by omega)]
    have oa : oAll (s K) (hq s K) (oq s o0 K) = oBody (s K) (hq s K) (oq s o0 K) := if_pos h1
    have l5 : hq s K 5 < 100000 := by
      by_cases y : hq s K 17 < 100000
      · have := p2 y
        unfold sEnd at hend
        split at hend <;> omega
      · have := p3 (by omega)
        omega
    rw [ha, ra, oa]
    generalize hq s K = h at *
    generalize s K = b at *
    unfold hBody rBody oBody
    by_cases c3 : h 3 = 5
    · rw [if_pos c3, if_pos c3, if_pos c3]
      refine wq_mono (c_hearS (fu := fu) (L := L) hE hO hb h1 l2 c3 (by omega) e10 e11 q13 q17) ?_
      rintro z ⟨z1, z2, z3, z4⟩
      refine ⟨z1, z2, fun y => ?_, ⟨_, OcR_f hO (fun y => z4 _ y (by omega))⟩, fun a x u1 u2 => z4 a x u1⟩
      apply z3
      intro w
      rw [if_pos w] at y
      omega
    · rw [if_neg c3, if_neg c3, if_neg c3]
      have hG := PI_s e1 hb
      obtain ⟨_, r12, r13, _, r17, _⟩ := PI_b hG
      refine wq_mono (c_hearP (fu := fu) (L := L) hE hO hb h1 l2 (by omega) l5 q7 e10 e11 q11 q12 q13 q15 q17 (fun z => by have := q14b z; omega) qo r12 r13 r17) ?_
      rintro z ⟨z1, z2, z3, z5, z4⟩
      refine ⟨z1, z2, fun y => ⟨?_, z5⟩, ⟨_, z5⟩, z4⟩
      apply z3
      intro w
      rw [if_pos w] at y
      omega
  · obtain ⟨i, rfl⟩ : ∃ i, K = e + i := ⟨K - e, by omega⟩
    obtain ⟨t1, t2, t3⟩ := b4 i (by omega)
    obtain ⟨l2, l1, l1', l6, l13, l16, l18, l7, l8, l9, l4, l19, _⟩ := ET_b t1 (fun j u => hs j (by omega))
    have oa : oAll (s (e + i)) (hq s (e + i)) (oq s o0 (e + i)) = oq s o0 (e + i) := if_neg (by omega)
    rw [oa]
    generalize hq s (e + i) = h at *
    generalize s (e + i) = b at *
    unfold hAll rAll
    by_cases c1 : h 1 = 1
    · rw [if_pos c1, if_pos c1]
      refine wq_mono (c_hearF (fu := fu) (L := L) hE hb c1 l2 l4 l6 l8 l9 l16 (l19 c1)) ?_
      rintro z ⟨z1, z2, z3, z4⟩
      exact ⟨z1, z2, fun _ => ⟨z3, OcR_f hO (fun y => z4 _ y (by omega))⟩, ⟨_, OcR_f hO (fun y => z4 _ y (by omega))⟩, fun a x u1 u2 => z4 a x u1⟩
    · have c2 : h 1 = 2 := by omega
      rw [if_neg c1, if_neg c1, if_pos c2, if_pos c2]
      refine wq_mono (c_hearT (fu := fu) (L := L) hE hb c2 l6 l13 l16 (by omega) l7 l8 l9) ?_
      rintro z ⟨z1, z2, z3, z4⟩
      exact ⟨z1, z2, fun _ => ⟨z3, OcR_f hO (fun y => z4 _ y (by omega))⟩, ⟨_, OcR_f hO (fun y => z4 _ y (by omega))⟩, fun a x u1 u2 => z4 a x u1⟩
def putK (h : Nat → Nat) : Nat := if h 1 = 2 ∧ h 6 = 1 ∧ hRight h = true then 0 else 1
theorem c_putK {fu k K : Nat} {s : Nat → Nat} {A : mwM} {L : mwL} (hE : EaR A k (hq s K)) (hK : 1 ≤ K) (h0 : s 0 = 0) (hs : ∀ i, i < K → s i < 2) (hg : Gd s K) : DX5_putBit fu k A L = some (sI (putK (hq s K)), A, L) := by
  obtain ⟨e, b1, b2, b3, b4⟩ := BE_K (fun _ => 0) K hK h0 hs hg
  by_cases ce : K < e
  · obtain ⟨⟨e1, e2, e3, e4, e5, e6, e7, e8, e9, e10, e11, e12⟩, h1, hend⟩ := b3 K hK (by omega) ce
    unfold DX5_putBit fX5_putBit_b27 fX5_putBit_b28
    rw [hE 1 (by omega) (by omega), h1, if_neg (show ¬ sI 0 = 2 by decide)]
    unfold putK
    rw [if_neg (fun z => by omega)]
    rfl
  · obtain ⟨i, rfl⟩ : ∃ i, K = e + i := ⟨K - e, by omega⟩
    obtain ⟨t1, t2, t3⟩ := b4 i (by omega)
    obtain ⟨l2, l1, l1', l6, l13, l16, l18, l7, l8, l9, l4, l19, _⟩ := ET_b t1 hs
    exact c_putBit hE l1 l6 l13 l16 (by omega) l7 l8 l9
