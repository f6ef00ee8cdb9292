/-! the reference's search comes to the first way -/
section
variable {fu k n cap F0 m i c fresh : Nat} {M0 M : mwM} {L : mwL} {pl zl fr oc gl ch : Nat → Nat} {r : (Int32 × Int32 × mwM × mwL) → Option (Int32 × mwM × mwL)}
/-- at a group that stands nowhere -/
theorem s13d {v : Int32} (hB : SB M0 k n cap F0 m pl zl fr oc gl) (h : SR M0 M k F0 m gl (fun j => zl (gl j)) ch i i) (hi : i < m) : fX16_search_i13 fu k (sI m) 0 (sI fresh) r (sI i) v M L = fX16_search_b97 fu k (sI m) 0 (sI fresh) r (sI i) v (sI (gl i)) M L := by
  obtain ⟨⟨p1, p2, p3, p4, p5⟩, b2, b3, b4, b5, b6, b7⟩ := hB
  obtain ⟨g1, g2, g3, g4⟩ := b5 i hi
  unfold fX16_search_i13
  rw [if_neg (by rw [sI_ltl (by omega) (by decide)]; omega), if_neg (by rw [sI_le (by omega) (by omega)]; omega), mck_s (show i < 129 by omega) (by omega), sI_nn (show i < 2000000000 by omega), h.1 (k + 18) i (by omega) (by omega) (by omega) (by omega) (by omega), g4]
  simp only [mlet]
  rw [mck_s (by omega) (by omega), sI_nn (show gl i < 2000000000 by omega), h.2.2.2.1 i (Nat.le_refl _) hi, if_pos (by decide)]
/-- back at a group that stands in frame c -/
theorem s13e (hB : SB M0 k n cap F0 m pl zl fr oc gl) (h : SR M0 M k F0 m gl (fun j => zl (gl j)) (upd1 ch i c) (i + 1) (i + 1)) (hi : i < m) (hg : SG cap i (fun j => zl (gl j)) ch) (hc : c ≤ opn ch i) : ∃ M', SR M0 M' k F0 m gl (fun j => zl (gl j)) ch i i ∧ M' (k + 20) i = sI c ∧ fX16_search_i13 fu k (sI m) 0 (sI fresh) r (sI i) (sI (opn (upd1 ch i c) (i + 1))) M L = fX16_search_b97 fu k (sI m) 0 (sI fresh) r (sI i) (sI (opn ch i)) (sI (gl i)) M' L := by
  obtain ⟨⟨p1, p2, p3, p4, p5⟩, b2, b3, b4, b5, b6, b7⟩ := hB
  obtain ⟨g1, g2, g3, g4⟩ := b5 i hi
  have ht : tgt ch i := fun j hj => (hg j hj).1
  have hopi := tgt_le ht
  obtain ⟨r1, r2, r3, r4, r5, r6, r7⟩ := h
  have ne : ∀ j, j < m → j ≠ i → gl j ≠ gl i := fun j hj q w => q (b6 j i hj hi w)
  obtain ⟨e16, e17⟩ := r3 i (by omega)
  obtain ⟨e20, e21⟩ := r7 i (by omega)
  rw [upd1_s] at e16 e20
  rw [upd1_s, opn_u] at e21
  refine ⟨mset M (k + 16) (gl i) 0, ⟨fun a y q1 q2 q3 q4 q5 => ?_, fun y hy => ?_, fun j hj => ?_, fun j j1 j2 => ?_, fun j hj => ?_, fun j hj => ?_, fun j hj => ?_⟩, ?_, ?_⟩
  · rw [mset_n (by omega)]; exact r1 a y q1 q2 q3 q4 q5
  · have := hy i hi
    rw [mset_n (by omega), mset_n (by omega)]; exact r2 y hy
  · have := ne j (by omega) (by omega)
    have a := r3 j (by omega)
    rw [upd1_n (by omega), fil_c (ch := upd1 ch i c) (ch' := ch) (fun x hx => upd1_n (by omega))] at a
    rw [mset_n (by omega), mset_n (by omega)]; exact a
  · by_cases e : j = i
    · rw [e, mset_s]
    · have := ne j j2 e
      rw [mset_n (by omega)]; exact r4 j (by omega) j2
  · rw [mset_n (by omega)]; exact r5 j hj
  · rw [mset_n (by omega)]
    refine r6 j ?_
    rw [opn_u1]
    split <;> omega
  · have a := r7 j (by omega)
    rw [upd1_n (by omega), opn_c (ch := upd1 ch i c) (ch' := ch) (fun x hx => upd1_n (by omega))] at a
    rw [mset_n (by omega), mset_n (by omega)]; exact a
  · rw [mset_n (by omega)]; exact e20
  · unfold fX16_search_i13
    rw [if_neg (by rw [sI_ltl (by omega) (by decide)]; omega), if_neg (by rw [sI_le (by omega) (by omega)]; omega), mck_s (show i < 129 by omega) (by omega), sI_nn (show i < 2000000000 by omega), r1 (k + 18) i (by omega) (by omega) (by omega) (by omega) (by omega), g4]
    simp only [mlet]
    rw [mck_s (show gl i < 129 by omega) (by omega), mck_s (show i < 129 by omega) (by omega), mck_s (show i < 129 by omega) (by omega), mck_s (show i < 129 by omega) (by omega), e20, e21, sI_nn (show gl i < 2000000000 by omega), e16, if_neg (by rw [sI_lel (by omega) (by decide)]; omega)]
    unfold fX16_search_b85 fX16_search_b87
    simp only [mlet]
    rw [mck_s (show gl i < 129 by omega) (by omega), mck_s (show gl i < 129 by omega) (by omega), sI_nn (show gl i < 2000000000 by omega)]
    by_cases ce : c = opn ch i
    · have eo : opn (upd1 ch i c) (i + 1) = c + 1 := by rw [opn_u1, if_pos (by omega)]
      rw [eo, sI_m1, if_pos (show sI c = sI c from rfl), if_neg (by rw [sI_ltl (by omega) (by decide)]; omega), decide_eq_true ce, bI_t, if_neg (show ¬ (1 : Int32) = 0 by decide), ce]
    · have eo : opn (upd1 ch i c) (i + 1) = opn ch i := by rw [opn_u1, if_neg (by omega)]
      rw [eo, decide_eq_false ce, bI_f, if_pos (show (0 : Int32) = 0 from rfl)]
      have s0 : ¬ sI c < 0 := by rw [sI_ltl (by omega) (by decide)]; omega
      rw [if_neg s0]
      split <;> rfl
end
/-- how many steps a search needs at most -/
def csr : Nat → Nat → Nat
  | 0, _ => 1
  | r + 1, o => (o + 2) * (1 + csr r (o + 1))
theorem csr_mono : ∀ (r o : Nat), csr r o ≤ csr r (o + 1) := by
  intro r
  induction r with
  | zero => intro o; exact Nat.le_refl _
  | succ r ih =>
    intro o
    have := ih (o + 1)
    show (o + 2) * (1 + csr r (o + 1)) ≤ (o + 1 + 2) * (1 + csr r (o + 1 + 1))
    exact Nat.mul_le_mul (by omega) (by omega)
theorem m_dfs {fu k n cap F0 m fresh : Nat} {M0 : mwM} {L : mwL} {pl zl fr oc gl : Nat → Nat} (hfu : 70 ≤ fu) (hB : SB M0 k n cap F0 m pl zl fr oc gl) (hz : ∀ j, j < m → zl (gl j) ≤ cap) (hfr : fresh ≤ m) : ∀ (r i f : Nat) (ch : Nat → Nat) (M : mwM), i + r = m → csr r (opn ch i) ≤ f → opn ch i ≤ fresh → SG cap i (fun j => zl (gl j)) ch → SR M0 M k F0 m gl (fun j => zl (gl j)) ch i i → (i < m → M (k + 20) i = -1) →
    (∃ ch' M', fnd (fun j => zl (gl j)) cap fresh r i ch = some ch' ∧ SR M0 M' k F0 m gl (fun j => zl (gl j)) ch' m m ∧ fX16_search_h13 fu k (sI m) 0 (sI fresh) f (sI i, sI (opn ch i), M, L) = some (1, M', L)) ∨ (fnd (fun j => zl (gl j)) cap fresh r i ch = none ∧ ∃ f' M', f ≤ f' + csr r (opn ch i) ∧ SR M0 M' k F0 m gl (fun j => zl (gl j)) ch i i ∧ fX16_search_h13 fu k (sI m) 0 (sI fresh) f (sI i, sI (opn ch i), M, L) = fX16_search_h13 fu k (sI m) 0 (sI fresh) f' (sI i + (-1), sI (opn ch i), M', L)) := by
  have h40 := hB.2.1
  have un : ∀ f v o M, fX16_search_h13 fu k (sI m) 0 (sI fresh) (f + 1) (v, o, M, L) = fX16_search_i13 fu k (sI m) 0 (sI fresh) (fX16_search_h13 fu k (sI m) 0 (sI fresh) f) v o M L := fun _ _ _ _ => rfl
  intro r
  induction r with
  | zero =>
    intro i f ch M hi hf hop hg hR h20
    have hf1 : 1 ≤ f := hf
    obtain ⟨f', rfl⟩ : ∃ x, f = x + 1 := ⟨f - 1, by omega⟩
    have : i = m := by omega
    subst this
    refine Or.inl ⟨ch, M, rfl, hR, ?_⟩
    rw [un]
    unfold fX16_search_i13 fX16_search_b278 fX16_search_b289
    rw [if_neg (by rw [sI_ltl (by omega) (by decide)]; omega), if_pos (by rw [sI_le (by omega) (by omega)]; omega), if_pos rfl]
    rfl
  | succ r ih =>
    intro i f ch M hi hf hop hg hR h20
    have ht : tgt ch i := fun j hj => (hg j hj).1
    have hopi := tgt_le ht
    generalize hC : 1 + csr r (opn ch i + 1) = D
    have hD : 1 ≤ D := by omega
    have hcs : csr (r + 1) (opn ch i) = (opn ch i + 2) * D := by rw [← hC]; rfl
    -- the tries at this group
    have inner : ∀ (nq c f : Nat) (M : mwM), c + nq = (if opn ch i < fresh then opn ch i + 1 else fresh) → (nq + 1) * D ≤ f + 1 → SR M0 M k F0 m gl (fun j => zl (gl j)) ch i i → M (k + 20) i + 1 = sI c →
        (∃ ch' M', tr (fun f => if fil ch (fun j => zl (gl j)) i f + zl (gl i) ≤ cap then fnd (fun j => zl (gl j)) cap fresh r (i + 1) (upd1 ch i f) else none) nq c = some ch' ∧ SR M0 M' k F0 m gl (fun j => zl (gl j)) ch' m m ∧ fX16_search_b97 fu k (sI m) 0 (sI fresh) (fX16_search_h13 fu k (sI m) 0 (sI fresh) f) (sI i) (sI (opn ch i)) (sI (gl i)) M L = some (1, M', L)) ∨ (tr (fun f => if fil ch (fun j => zl (gl j)) i f + zl (gl i) ≤ cap then fnd (fun j => zl (gl j)) cap fresh r (i + 1) (upd1 ch i f) else none) nq c = none ∧ ∃ f' M', f + 1 ≤ f' + (nq + 1) * D ∧ SR M0 M' k F0 m gl (fun j => zl (gl j)) ch i i ∧ fX16_search_b97 fu k (sI m) 0 (sI fresh) (fX16_search_h13 fu k (sI m) 0 (sI fresh) f) (sI i) (sI (opn ch i)) (sI (gl i)) M L = fX16_search_h13 fu k (sI m) 0 (sI fresh) f' (sI i + (-1), sI (opn ch i), M', L)) := by
      intro nq
      induction nq with
      | zero =>
        intro c f M hc hf hR h20
        obtain ⟨sa, _, _⟩ := s97 (r := fX16_search_h13 fu k (sI m) 0 (sI fresh) f) (L := L) hfu hB hR (by omega) hg hz h20 (by split at hc <;> omega) hop hfr
        obtain ⟨M', a1, a2⟩ := sa (by omega)
        exact Or.inr ⟨rfl, f, M', by omega, a1, a2⟩
      | succ nq ihn =>
        intro c f M hc hf hR h20
        have eD : (nq + 1 + 1) * D = (nq + 1) * D + D := Nat.succ_mul _ _
        have hco : c ≤ opn ch i := by split at hc <;> omega
        obtain ⟨_, sb, sc⟩ := s97 (r := fX16_search_h13 fu k (sI m) 0 (sI fresh) f) (L := L) hfu hB hR (by omega) hg hz h20 (by omega) hop hfr
        by_cases fits : fil ch (fun j => zl (gl j)) i c + zl (gl i) ≤ cap
        · obtain ⟨M', a1, a2, a3, a4⟩ := sc (by omega) fits
          have hop' : opn (upd1 ch i c) (i + 1) ≤ fresh := by rw [opn_u1]; split at hc <;> split <;> omega
          have hcl : csr r (opn (upd1 ch i c) (i + 1)) + 1 ≤ D := by
            rw [opn_u1]
            have m1 := csr_mono r (opn ch i)
            by_cases q : opn ch i < c + 1
            · rw [if_pos q, show c + 1 = opn ch i + 1 from by omega]; omega
            · rw [if_neg q]; omega
          have h0 : 0 < (nq + 1) * D := Nat.mul_pos (by omega) (by omega)
          rcases ih (i + 1) f (upd1 ch i c) M' (by omega) (by omega) hop' a2 a1 (fun _ => a3) with ⟨ch', M2, k1, k2, k3⟩ | ⟨k1, f', M2, k2, k3, k4⟩
          · refine Or.inl ⟨ch', M2, ?_, k2, by rw [a4]; exact k3⟩
            unfold tr
            rw [if_pos fits, k1]
          · obtain ⟨f2, rfl⟩ : ∃ x, f' = x + 1 := ⟨f' - 1, by omega⟩
            rw [sI_pm, un] at k4
            obtain ⟨M3, e1, e2, e3⟩ := s13e (fu := fu) (fresh := fresh) (L := L) (r := fX16_search_h13 fu k (sI m) 0 (sI fresh) f2) hB k3 (by omega) hg hco
            rw [e3] at k4
            have et : tr (fun f => if fil ch (fun j => zl (gl j)) i f + zl (gl i) ≤ cap then fnd (fun j => zl (gl j)) cap fresh r (i + 1) (upd1 ch i f) else none) (nq + 1) c = tr (fun f => if fil ch (fun j => zl (gl j)) i f + zl (gl i) ≤ cap then fnd (fun j => zl (gl j)) cap fresh r (i + 1) (upd1 ch i f) else none) nq (c + 1) := by
              conv => lhs; unfold tr
              rw [if_pos fits, k1]
            rw [et, a4, k4]
            rcases ihn (c + 1) f2 M3 (by omega) (by omega) e1 (by rw [e2, sI_1]) with ⟨ch', M4, w1, w2, w3⟩ | ⟨w1, f4, M4, w2, w3, w4⟩
            · exact Or.inl ⟨ch', M4, w1, w2, w3⟩
            · exact Or.inr ⟨w1, f4, M4, by omega, w3, w4⟩
        · obtain ⟨M', a1, a2, a3⟩ := sb (by omega) fits
          have h0 : 0 < (nq + 1) * D := Nat.mul_pos (by omega) (by omega)
          obtain ⟨f2, rfl⟩ : ∃ x, f = x + 1 := ⟨f - 1, by omega⟩
          rw [un, s13d hB a1 (by omega)] at a3
          have et : tr (fun f => if fil ch (fun j => zl (gl j)) i f + zl (gl i) ≤ cap then fnd (fun j => zl (gl j)) cap fresh r (i + 1) (upd1 ch i f) else none) (nq + 1) c = tr (fun f => if fil ch (fun j => zl (gl j)) i f + zl (gl i) ≤ cap then fnd (fun j => zl (gl j)) cap fresh r (i + 1) (upd1 ch i f) else none) nq (c + 1) := by
            conv => lhs; unfold tr
            rw [if_neg fits]
          rw [et, a3]
          rcases ihn (c + 1) f2 M' (by omega) (by omega) a1 (by rw [a2, sI_1]) with ⟨ch', M4, w1, w2, w3⟩ | ⟨w1, f4, M4, w2, w3, w4⟩
          · exact Or.inl ⟨ch', M4, w1, w2, w3⟩
          · exact Or.inr ⟨w1, f4, M4, by omega, w3, w4⟩
    have hmul : ((if opn ch i < fresh then opn ch i + 1 else fresh) + 1) * D ≤ (opn ch i + 2) * D := Nat.mul_le_mul_right _ (by split <;> omega)
    have h1 : 1 ≤ (opn ch i + 2) * D := Nat.mul_pos (by omega) (by omega)
    rw [hcs] at hf
    obtain ⟨f2, rfl⟩ : ∃ x, f = x + 1 := ⟨f - 1, by omega⟩
    rw [un, s13d hB hR (by omega)]
    have e0 : M (k + 20) i + 1 = sI 0 := by rw [h20 (by omega)]; rfl
    rcases inner (if opn ch i < fresh then opn ch i + 1 else fresh) 0 f2 M (by omega) (by omega) hR e0 with ⟨ch', M4, w1, w2, w3⟩ | ⟨w1, f4, M4, w2, w3, w4⟩
    · exact Or.inl ⟨ch', M4, w1, w2, w3⟩
    · exact Or.inr ⟨w1, f4, M4, by rw [hcs]; omega, w3, w4⟩
theorem csr_7 : ∀ m, m ≤ 7 → csr m 0 ≤ 86552 := by decide
theorem m_search {fu k n cap F0 m fresh : Nat} {M0 M : mwM} {L : mwL} {pl zl fr oc gl : Nat → Nat} (hfu : 90000 ≤ fu) (hB : SB M0 k n cap F0 m pl zl fr oc gl) (hm : 0 < m) (hm7 : m ≤ 7) (hz : ∀ j, j < m → zl (gl j) ≤ cap) (hfr : fresh ≤ m) (hR : SR M0 M k F0 m gl (fun j => zl (gl j)) (fun _ => 0) 0 0) :
    (∃ ch' M', fnd (fun j => zl (gl j)) cap fresh m 0 (fun _ => 0) = some ch' ∧ SR M0 M' k F0 m gl (fun j => zl (gl j)) ch' m m ∧ DX16_search fu k (sI m) 0 (sI fresh) M L = some (1, M', L)) ∨ (fnd (fun j => zl (gl j)) cap fresh m 0 (fun _ => 0) = none ∧ ∃ M', SR M0 M' k F0 m gl (fun j => zl (gl j)) (fun _ => 0) 0 0 ∧ DX16_search fu k (sI m) 0 (sI fresh) M L = some (0, M', L)) := by
  have e0 : (0 : Int32).toNatClampNeg = 0 := rfl
  unfold DX16_search
  simp only [mlet]
  rw [e0]
  have c7 := csr_7 m hm7
  have hR1 : SR M0 (mset M (k + 20) 0 (-1)) k F0 m gl (fun j => zl (gl j)) (fun _ => 0) 0 0 := SR_x hR (fun a y q => by rw [mset_n (by omega)])
  have o0 : opn (fun _ => 0) 0 = 0 := rfl
  rcases m_dfs (fu := fu) (L := L) (by omega) hB hz hfr m 0 fu (fun _ => 0) _ (by omega) (by rw [o0]; omega) (by rw [o0]; omega) (fun j hj => by omega) hR1 (fun _ => by rw [mset_s]) with ⟨ch', M', k1, k2, k3⟩ | ⟨k1, f', M', k2, k3, k4⟩
  · exact Or.inl ⟨ch', M', k1, k2, k3⟩
  · refine Or.inr ⟨k1, M', k3, ?_⟩
    rw [o0] at k2 k4
    have k4' : fX16_search_h13 fu k (sI m) 0 (sI fresh) fu (0, 0, mset M (k + 20) 0 (-1), L) = fX16_search_h13 fu k (sI m) 0 (sI fresh) f' (-1, 0, M', L) := k4
    rw [k4']
    obtain ⟨f2, rfl⟩ : ∃ x, f' = x + 1 := ⟨f' - 1, by omega⟩
    show fX16_search_i13 fu k (sI m) 0 (sI fresh) (fX16_search_h13 fu k (sI m) 0 (sI fresh) f2) (-1) 0 M' L = _
    unfold fX16_search_i13 fX16_search_b278 fX16_search_b289
    rw [if_pos (by decide), if_neg (sI_m1n (by omega))]
    rfl
