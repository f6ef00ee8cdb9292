/-! a microsecond of the cores, on both sides -/
theorem RC_5 {A A' M : mwM} {L : mwL} {T C tn cn U : Nat} (h : RC A M L T C tn cn U) (hA : ∀ b y, ¬ (b = 5 ∧ (y = 5 ∨ y = 6)) → b ≠ 19 → A' b y = A b y) : RC A' M L T C tn cn U := by
  obtain ⟨h1, h2, h3, h4, h5, h6, h7, h8, h9, h10, h11, h12, h13, h14, h15, h16, h17⟩ := h
  refine ⟨h1, h2, h3, h4, by rw [hA 5 3 (by omega) (by omega)]; exact h5, h6, h7, h8, by rw [hA 5 4 (by omega) (by omega)]; exact h9, h10, h11, h12, h13, h14, h15, ?_, ?_⟩
  · intro i hi
    obtain ⟨rk, co, pe, mi, nx, st, lf, wa, tu, us, dn, q1, q2, q3⟩ := h16 i hi
    exact ⟨rk, co, pe, mi, nx, st, lf, wa, tu, us, dn, q1, tk_f q2 (fun b _ _ => hA b i (by omega) (by omega)), q3⟩
  · intro c hc
    obtain ⟨w, v1, v2, v3⟩ := h17 c hc
    refine ⟨w, by rw [hA 18 c (by omega) (by omega)]; exact v1, v2, ?_⟩
    intro i hi
    rw [hA 8 i (by omega) (by omega), hA 12 i (by omega) (by omega)]
    exact v3 i hi
theorem SA_5 {A A' : mwM} {T n : Nat} (h : SA A T n) (hA : ∀ b y, b ≠ 5 → b ≠ 19 → A' b y = A b y) : SA A' T n := by
  intro c hc
  obtain ⟨b, u1, u2⟩ := h c hc
  refine ⟨b, ⟨by rw [hA 18 c (by omega) (by omega)]; exact u1.1, ?_⟩, fun x hx => ⟨(u2 x hx).1, by rw [hA 13 x (by omega) (by omega)]; exact (u2 x hx).2.1, by rw [hA 8 x (by omega) (by omega)]; exact (u2 x hx).2.2⟩⟩
  intro x hx h8 h12
  rw [hA 8 x (by omega) (by omega)] at h8
  rw [hA 12 x (by omega) (by omega)] at h12
  obtain ⟨y, q1, q2, q3⟩ := u1.2 x hx h8 h12
  exact ⟨y, q1, by rw [hA 12 y (by omega) (by omega)]; exact q2, by rw [hA 7 x (by omega) (by omega), hA 7 y (by omega) (by omega)]; exact q3⟩
/-- who ran, in every microsecond so far -/
def rwS (v : Nat → Nat) : Nat → Nat
  | 0 => 0
  | c + 1 => rwS v c + v c * 16 ^ c
theorem rwN_S (A : mwM) : ∀ c, rwN A c = rwS (rwV A) c := by
  intro c
  induction c with
  | zero => rfl
  | succ c ih =>
    show rwN A c + rwV A c * 16 ^ c = rwS (rwV A) c + rwV A c * 16 ^ c
    rw [ih]
def WH (A M : mwM) (C t : Nat) : Prop := ∀ s, s < t → ∃ v : Nat → Nat, (∀ c, c < 6 → v c < 16) ∧ A 19 s = sI (rwS v 6) ∧ ∀ c, c < C → M 820 (20000 * c + s) = sI (v c)
def RCo (A M : mwM) (L : mwL) (T C t : Nat) : Prop := ∃ tn cn U cut, RC A M L T C tn cn U ∧ AL A M L T t cut ∧ L 787 43 = sL t ∧ t ≤ 20000 ∧ tn ≤ 84 * t ∧ cn ≤ 12 * t ∧ U ≤ 6 * t + 1 ∧ (A 5 6 = 0 ∨ A 5 6 = 1) ∧ (A 5 6 = 1 → SA A T 6) ∧ WH A M C t
/-- a task has used its microseconds: whole numbers of runs -/
theorem dn_iff {us lf dn mi : Nat} (h0 : lf = 0 → us = dn * (mi + 1)) (h1 : 0 < lf → us + lf = (dn + 1) * (mi + 1)) (hl : lf ≤ mi) : (us % (mi + 1) = 0) ↔ lf = 0 := by
  constructor
  · intro h
    rcases Nat.eq_zero_or_pos lf with q | q
    · exact q
    · exfalso
      have e := h1 q
      have e2 : (us + lf) % (mi + 1) = 0 := by rw [e]; exact Nat.mul_mod_left _ _
      rw [Nat.add_mod, h, Nat.zero_add, Nat.mod_mod, Nat.mod_eq_of_lt (by omega)] at e2
      omega
  · intro h
    rw [h0 h]
    exact Nat.mul_mod_left _ _
theorem sI_inj {a b : Nat} (ha : a < 2000000000) (hb : b < 2000000000) (h : sI a = sI b) : a = b := (sI_eq ha hb).mp h
/-- from the settled cores on: the microsecond is used -/
theorem st_tail {fu : Nat} {A0 A M0 M : mwM} {L0 L Lc : mwL} {T C tn cn U t : Nat} {cut : Nat → Nat} (hf : 500 ≤ fu) (ht : t < 20000) (hR : RC A M L T C tn cn U) (hS : SA A T 6) (hN : L 787 43 = sL t) (hU : U ≤ 6 * t + 1) (htn : tn ≤ 84 * t + 84) (hcn : cn ≤ 12 * t + 12) (h56 : A 5 6 = 1) (hW : WH A0 M0 C t) (h19 : ∀ y, A 19 y = A0 19 y) (h820 : ∀ y, M 820 y = M0 820 y) (hAL : AL A M L T (t + 1) cut) : ∃ A', fX4_passMicrosecond_b36 fu (sI t) A Lc = some (A', Lc) ∧ wq (fX15_microsecond_b121 fu M L) (fun q => RCo A' q.2.1 q.2.2 T C (t + 1) ∧ (∃ fr, fr < 2 ^ T ∧ A' 5 5 = sI fr ∧ ∀ i, i < T → ∃ us us' mi dn, L 805 (i + 1) = sL us ∧ q.2.2 805 (i + 1) = sL us' ∧ us' < 1000000 ∧ us ≤ us' ∧ A 10 i = sI mi ∧ mi ≤ 1000 ∧ (fr.testBit i = true ↔ us < us' ∧ us' % (mi + 1) = 0) ∧ A 17 i = sI dn ∧ dn < 1000000 ∧ A' 17 i = sI (if fr.testBit i = true then dn + 1 else dn)) ∧ (∀ b y, ¬ (b = 5 ∧ (y = 5 ∨ y = 6)) → b ≠ 13 → b ≠ 16 → b ≠ 17 → b ≠ 19 → A' b y = A b y) ∧ (∀ b y, b ≠ 820 → b ≠ 799 → b ≠ 801 → q.2.1 b y = M b y) ∧ ∀ b y, b ≠ 800 → b ≠ 805 → ¬ (b = 787 ∧ y = 43) → q.2.2 b y = L b y) := by
  have hT := hR.1
  have hC := hR.2.1
  have e1 := st_uses (fu := fu) (Lc := Lc) (by omega) ht (by omega) hS ⟨M, L, hR⟩
  refine ⟨_, e1, ?_⟩
  have hR0 : RC (mset A 5 5 0) M L T C tn cn U := RC_5 hR (fun b y h1 _ => mset_n (by omega))
  have hS0 : SA (mset A 5 5 0) T 6 := SA_5 hS (fun b y h1 _ => mset_k h1)
  have hB55 : mset A 5 5 0 5 5 = 0 := mset_s
  have hB56 : mset A 5 5 0 5 6 = 1 := by rw [mset_j (by decide)]; exact h56
  have hBo : ∀ b y, b ≠ 5 → mset A 5 5 0 b y = A b y := fun b y hb => mset_k hb
  have hB3 : ∀ b y, ¬ (b = 5 ∧ y = 5) → mset A 5 5 0 b y = A b y := fun b y hb => mset_n hb
  generalize mset A 5 5 0 = B at *
  have hchs : ∀ c, c < 6 → ∃ b, chs B c = b ∧ stl B c T b ∧ ∀ x, b = some x → x < T ∧ B 13 x ≠ 0 ∧ B 8 x = sI c ∧ B 12 x = 2 := by
    intro c hc
    obtain ⟨b, u1, u2⟩ := hS0 c hc
    obtain ⟨h12, _, _⟩ := m_idle (fu := fu) (by omega) hR0 hc u1 (fun x hx => (u2 x hx).1)
    exact ⟨b, chs_eq hT (fun x hx => (u2 x hx).1) u1.1, u1, fun x hx => ⟨(u2 x hx).1, (u2 x hx).2.1, (u2 x hx).2.2, (h12 x hx).2⟩⟩
  have hb : ∀ c, c < 6 → ∀ x, chs B c = some x → x < T ∧ B 8 x = sI c := by
    intro c hc x hx
    obtain ⟨b, e, _, u⟩ := hchs c hc
    rw [e] at hx
    exact ⟨(u x hx).1, (u x hx).2.2.1⟩
  have hrv : ∀ c, c < 6 → rwV B c < 16 := by
    intro c hc
    obtain ⟨b, e, _, u⟩ := hchs c hc
    unfold rwV
    rw [e]
    cases b with
    | none => decide
    | some x => have := (u x rfl).1; show x + 1 < 16; omega
  obtain ⟨⟨fr, f1, f2, f3⟩, g1, g2, g3⟩ := us_bits hT hb hB55 6 (Nat.le_refl _)
  refine wq_mono (m_uses (fu := fu) (by omega) ht (by omega) hS0 hR0 hN) ?_
  rintro ⟨r, M', L'⟩ ⟨p1, p2, p3, p4, p5, p6⟩
  dsimp only at p1 p2 p3 p4 p5 p6 ⊢
  have hus : ∀ b y, ¬ (b = 5 ∧ (y = 5 ∨ y = 6)) → b ≠ 13 → b ≠ 16 → b ≠ 17 → b ≠ 19 → mset (usN B 6) 19 t (sI (rwN B 6)) b y = A b y := by
    intro b y h1 h2 h3 h4 h5
    rw [mset_k h5, usN_f h2 h3 h4 h1]
    exact hB3 b y (by omega)
  refine ⟨⟨tn, cn, U + 6, cut, RC_5 p1 (fun b y _ h2 => mset_k h2), ?_, p2, by omega, by omega, by omega, by omega, ?_, ?_, ?_⟩, ⟨fr, f1, ?_, ?_⟩, hus, p5, p6⟩
  · obtain ⟨c0, cT, c32, hseg⟩ := hAL
    refine ⟨c0, cT, (p5 787 32 (by omega) (by omega) (by omega)).trans c32, ?_⟩
    intro j hj
    obtain ⟨s1, s2, s3, kx, nx, pe, k1, k2, k3, k4, k5, k6, k7, k8, k9, k10, k11⟩ := hseg j hj
    refine ⟨s1, s2, fun k w1 w2 => (p5 812 k (by omega) (by omega) (by omega)).trans (s3 k w1 w2), kx, nx, pe, k1, k2, (hus 11 j (by omega) (by omega) (by omega) (by omega) (by omega)).trans k3, (hus 9 j (by omega) (by omega) (by omega) (by omega) (by omega)).trans k4, k5, k6, k7, k8, ?_, ?_, k11⟩
    · intro k w1 w2
      obtain ⟨z, z1, z2⟩ := k9 k w1 w2
      exact ⟨z, (p6 813 k (by omega) (by omega) (by omega)).trans z1, z2⟩
    · intro k w1 w2
      exact (p6 813 k (by omega) (by omega) (by omega)).trans (k10 k w1 w2)
  · rw [mset_k (by decide)]
    rcases g2 with q | q
    · exact Or.inr (q.trans hB56)
    · exact Or.inl q
  · intro hq
    rw [mset_k (by decide)] at hq
    have hno := g3 (by rw [hq]; decide)
    refine SA_5 (A := usN B 6) ?_ (fun b y _ h2 => mset_k h2)
    intro c hc
    obtain ⟨b, e, u1, u2⟩ := hchs c hc
    refine ⟨b, stl_us u1 6, fun x hx => ⟨(u2 x hx).1, ?_, ?_⟩⟩
    · have hrx : ran B 6 x := ⟨c, hc, by rw [e, hx]⟩
      rw [(g1 x hrx).2.1]
      have h1 := hno x hrx
      intro q
      apply h1
      have := congrArg (fun z => z + 1) q
      simpa using this
    · rw [usN_f (by decide) (by decide) (by decide) (by omega)]
      exact (u2 x hx).2.2.1
  · intro s hs
    by_cases hst : s = t
    · subst hst
      refine ⟨rwV B, hrv, ?_, p3⟩
      rw [mset_s, rwN_S]
    · obtain ⟨v, v1, v2, v3⟩ := hW s (by omega)
      refine ⟨v, v1, ?_, ?_⟩
      · rw [mset_j hst, usN_f (by decide) (by decide) (by decide) (by omega), hBo 19 s (by omega), h19]
        exact v2
      · intro c hc
        rw [p4 _ (fun c' hc' => by omega), h820]
        exact v3 c hc
  · rw [mset_k (by decide)]; exact f2
  · intro i hi
    obtain ⟨_, _, _, _, _, _, _, _, _, _, _, _, _, _, _, htA, _⟩ := hR0
    obtain ⟨_, _, _, _, _, _, _, _, _, _, _, _, _, _, _, htB, _⟩ := p1
    obtain ⟨rk, co, pe, mi, nx, st, lf, wa, tu, us, dn, q1, q2, q3⟩ := htA i hi
    obtain ⟨rk', co', pe', mi', nx', st', lf', wa', tu', us', dn', r1, r2, r3⟩ := htB i hi
    obtain ⟨w1, w2, w3, w4, w5, w6, w7, w8, w9, w10, w11, w12, w13, w14, w15, w16⟩ := q1
    obtain ⟨k1, k2, k3, k4, k5, k6, k7, k8, k9, k10, k11⟩ := q2
    obtain ⟨w1', w2', w3', w4', w5', w6', w7', w8', w9', w10', w11', w12', w13', w14', w15', w16'⟩ := r1
    obtain ⟨k1', k2', k3', k4', k5', k6', k7', k8', k9', k10', k11'⟩ := r2
    have hmi : mi' = mi := by
      rw [usN_f (by decide) (by decide) (by decide) (by omega), k4] at k4'
      exact (sI_inj (by omega) (by omega) k4').symm
    subst hmi
    have e17A : A 17 i = sI dn := by rw [← hBo 17 i (by omega)]; exact k11
    have eA10 : A 10 i = sI mi' := by rw [← hBo 10 i (by omega)]; exact k4
    have e17 : mset (usN B 6) 19 t (sI (rwN B 6)) 17 i = usN B 6 17 i := mset_k (by decide)
    refine ⟨us, us', mi', dn, q3.2.2.2.2.2.2.2.2.2.2.2.1, r3.2.2.2.2.2.2.2.2.2.2.2.1, by omega, ?_, eA10, w6, ?_, e17A, by omega, ?_⟩
    all_goals by_cases hr : ran B 6 i
    · obtain ⟨x1, x2, x3⟩ := g1 i hr
      rw [x1, k10, sI_1] at k10'
      have := sI_inj (by omega) (by omega) k10'
      omega
    · have hz := usN_13 (A := B) (x := i) 6 (fun c' hc' q => hr ⟨c', hc', q⟩) 16 (by omega)
      rw [hz, k10] at k10'
      have := sI_inj (by omega) (by omega) k10'
      omega
    · obtain ⟨x1, x2, x3⟩ := g1 i hr
      rw [f3 i hi]
      have hlf0 : lf ≠ 0 := by
        obtain ⟨c, hc, hcx⟩ := hr
        obtain ⟨b, e, _, u⟩ := hchs c hc
        have := (u i (by rw [← e]; exact hcx)).2.1
        intro q
        apply this
        rw [k7, q]; rfl
      obtain ⟨l0, rfl⟩ : ∃ l0, lf = l0 + 1 := ⟨lf - 1, by omega⟩
      have hus' : us' = us + 1 := by
        rw [x1, k10, sI_1] at k10'
        exact (sI_inj (by omega) (by omega) k10').symm
      have hlf' : lf' = l0 := by
        rw [x2, k7, sI_m1] at k7'
        exact (sI_inj (by omega) (by omega) k7').symm
      rw [dn_iff w15' w16' (by omega), hlf', k7]
      constructor
      · rintro ⟨_, q⟩
        have q2 : sI (l0 + 1) = sI 1 := q
        have := sI_inj (by omega) (by omega) q2
        omega
      · rintro ⟨_, q⟩
        refine ⟨hr, ?_⟩
        rw [q]; rfl
    · rw [f3 i hi]
      have hz := usN_13 (A := B) (x := i) 6 (fun c' hc' q => hr ⟨c', hc', q⟩) 16 (by omega)
      rw [hz, k10] at k10'
      have := sI_inj (by omega) (by omega) k10'
      constructor
      · rintro ⟨q, _⟩; exact absurd q hr
      · rintro ⟨q, _⟩; omega
    · obtain ⟨x1, x2, x3⟩ := g1 i hr
      rw [e17, x3, k11, sI_1]
      by_cases h13 : B 13 i = 1
      · rw [if_pos h13, if_pos ((f3 i hi).mpr ⟨hr, h13⟩)]
      · rw [if_neg h13, if_neg (fun q => h13 ((f3 i hi).mp q).2)]
    · have hz := usN_13 (A := B) (x := i) 6 (fun c' hc' q => hr ⟨c', hc', q⟩) 17 (by omega)
      rw [e17, hz, k11, if_neg (fun q => hr ((f3 i hi).mp q).1)]
/-- the cores' microsecond -/
theorem st_micro {fu : Nat} {A M : mwM} {L Lc : mwL} {T C t : Nat} (hf : 500 ≤ fu) (ht : t < 20000) (h : RCo A M L T C t) : ∃ A', DX4_passMicrosecond fu (sI t) A Lc = some (A', Lc) ∧ wq (DX15_microsecond fu M L) (fun q => RCo A' q.2.1 q.2.2 T C (t + 1) ∧ (∃ fr, fr < 2 ^ T ∧ A' 5 5 = sI fr ∧ ∀ i, i < T → ∃ us us' mi dn, L 805 (i + 1) = sL us ∧ q.2.2 805 (i + 1) = sL us' ∧ us' < 1000000 ∧ us ≤ us' ∧ A 10 i = sI mi ∧ mi ≤ 1000 ∧ (fr.testBit i = true ↔ us < us' ∧ us' % (mi + 1) = 0) ∧ A 17 i = sI dn ∧ dn < 1000000 ∧ A' 17 i = sI (if fr.testBit i = true then dn + 1 else dn)) ∧ (∀ b y, b ≠ 5 → ¬ (11 ≤ b ∧ b ≤ 19) → A' b y = A b y) ∧ (∀ b y, (b < 787 ∨ 820 < b) → q.2.1 b y = M b y) ∧ ∀ b y, (b < 787 ∨ 820 < b) → q.2.2 b y = L b y) := by
  obtain ⟨tn, cn, U, cut, hR, hAL, h43, ht2, b1, b2, b3, h56, hSA, hW⟩ := h
  have hT := hR.1
  have hwa : ∀ j, j < T → A 14 j = 0 ∨ A 14 j = 1 := by
    obtain ⟨_, _, _, _, _, _, _, _, _, _, _, _, _, _, _, htA, _⟩ := hR
    intro j hj
    obtain ⟨rk, co, pe, mi, nx, st, lf, wa, tu, us, dn, q1, q2, q3⟩ := htA j hj
    have hw2 : wa < 2 := q1.2.2.2.2.2.2.2.2.2.1
    rw [q2.2.2.2.2.2.2.2.1]
    rcases Nat.lt_or_ge wa 1 with q | q
    · left
      have : wa = 0 := by omega
      rw [this]; rfl
    · right
      have : wa = 1 := by omega
      rw [this]; rfl
  have hact := c_activate (fu := fu) (L := Lc) (t := t) (by omega) hT hR.2.2.2.2.1 hwa
  -- the reference: its table
  obtain ⟨M1, L1, tn1, cn1, heq, hR1, htn1, hcn1, hal⟩ : ∃ M1 L1 tn1 cn1, DX15_microsecond fu M L = fX15_microsecond_h42 fu fu (1, M1, L1) ∧ RC (actN A t T) M1 L1 T C tn1 cn1 U ∧ tn1 ≤ tn + T ∧ cn1 ≤ cn + T ∧ alM M M1 L L1 := by
    have hc0 : cut 0 = 0 := hAL.1
    have hcT : cut T ≤ 480 := hAL.2.1
    have := m_alarms (fu := fu) (C := C) (U := U) (tn0 := tn) (cn0 := cn) (P := fun o => ∃ M1 L1 tn1 cn1, o = fX15_microsecond_h42 fu fu (1, M1, L1) ∧ RC (actN A t T) M1 L1 T C tn1 cn1 U ∧ tn1 ≤ tn + T ∧ cn1 ≤ cn + T ∧ alM M M1 L L1) hT ht (by omega) (by omega) hAL h43 (fun M' L' tn' cn' q1 q2 q3 q4 => ⟨M', L', tn', cn', rfl, q1, q2, q3, q4⟩) T 0 fu tn cn M L (by omega) (by omega) (by omega) (by omega) ⟨fun _ _ _ _ => rfl, fun _ _ _ _ => rfl⟩ hR
    rw [hc0] at this
    exact this
  have hAL1 : ∀ (A2 M2 : mwM) (L2 : mwL), (∀ j, A2 11 j = actN A t T 11 j) → (∀ j, A2 9 j = actN A t T 9 j) → M2 787 32 = M1 787 32 → (∀ k, M2 812 k = M1 812 k) → (∀ k, L2 813 k = L1 813 k) → AL A2 M2 L2 T (t + 1) cut := by
    intro A2 M2 L2 w1 w2 w3 w4 w5
    refine AL_next ht hAL ?_ ?_ (w3.trans (hal.1 787 32 (by omega) (by omega))) (fun k => (w4 k).trans (hal.1 812 k (by omega) (by omega))) (fun k => (w5 k).trans (hal.2 813 k (by omega) (by omega)))
    · intro j hj
      rw [w1, actN_11 T (Nat.le_refl _)]
      by_cases hq : A 11 j = sI t
      · rw [if_pos ⟨hj, hq⟩, if_pos hq]
      · rw [if_neg (fun q => hq q.2), if_neg hq]
    · intro j hj
      rw [w2]
      exact actN_g (by omega) (by omega) T
  have hN1 : L1 787 43 = sL t := by rw [hal.2 787 43 (by omega) (by omega)]; exact h43
  have hfin : ∀ (A2 : mwM) (M2 : mwM) (L2 : mwL) (q : Int32 × mwM × mwL) (A' : mwM), (∀ b y, b ≠ 5 → ¬ (11 ≤ b ∧ b ≤ 19) → A2 b y = A b y) → (∀ y, A2 17 y = A 17 y) → (∀ b y, (b < 787 ∨ 820 < b) → M2 b y = M b y) → (∀ b y, (b < 787 ∨ 820 < b) → L2 b y = L b y) → (∀ y, L2 805 y = L 805 y) → (RCo A' q.2.1 q.2.2 T C (t + 1) ∧ (∃ fr, fr < 2 ^ T ∧ A' 5 5 = sI fr ∧ ∀ i, i < T → ∃ us us' mi dn, L2 805 (i + 1) = sL us ∧ q.2.2 805 (i + 1) = sL us' ∧ us' < 1000000 ∧ us ≤ us' ∧ A2 10 i = sI mi ∧ mi ≤ 1000 ∧ (fr.testBit i = true ↔ us < us' ∧ us' % (mi + 1) = 0) ∧ A2 17 i = sI dn ∧ dn < 1000000 ∧ A' 17 i = sI (if fr.testBit i = true then dn + 1 else dn)) ∧ (∀ b y, ¬ (b = 5 ∧ (y = 5 ∨ y = 6)) → b ≠ 13 → b ≠ 16 → b ≠ 17 → b ≠ 19 → A' b y = A2 b y) ∧ (∀ b y, b ≠ 820 → b ≠ 799 → b ≠ 801 → q.2.1 b y = M2 b y) ∧ ∀ b y, b ≠ 800 → b ≠ 805 → ¬ (b = 787 ∧ y = 43) → q.2.2 b y = L2 b y) → (RCo A' q.2.1 q.2.2 T C (t + 1) ∧ (∃ fr, fr < 2 ^ T ∧ A' 5 5 = sI fr ∧ ∀ i, i < T → ∃ us us' mi dn, L 805 (i + 1) = sL us ∧ q.2.2 805 (i + 1) = sL us' ∧ us' < 1000000 ∧ us ≤ us' ∧ A 10 i = sI mi ∧ mi ≤ 1000 ∧ (fr.testBit i = true ↔ us < us' ∧ us' % (mi + 1) = 0) ∧ A 17 i = sI dn ∧ dn < 1000000 ∧ A' 17 i = sI (if fr.testBit i = true then dn + 1 else dn)) ∧ (∀ b y, b ≠ 5 → ¬ (11 ≤ b ∧ b ≤ 19) → A' b y = A b y) ∧ (∀ b y, (b < 787 ∨ 820 < b) → q.2.1 b y = M b y) ∧ ∀ b y, (b < 787 ∨ 820 < b) → q.2.2 b y = L b y) := by
    intro A2 M2 L2 q A' e1 e2 e3 e4 e5 ⟨q1, ⟨fr, q2, q3, q4⟩, q5, q6, q7⟩
    refine ⟨q1, ⟨fr, q2, q3, ?_⟩, fun b y h1 h2 => (q5 b y (by omega) (by omega) (by omega) (by omega) (by omega)).trans (e1 b y h1 h2), fun b y h1 => (q6 b y (by omega) (by omega) (by omega)).trans (e3 b y h1), fun b y h1 => (q7 b y (by omega) (by omega) (by omega)).trans (e4 b y h1)⟩
    intro i hi
    obtain ⟨us, us', mi, dn, x1, x2, x3, x4, x5, x6, x7, x8, x9, x10⟩ := q4 i hi
    exact ⟨us, us', mi, dn, by rw [← e5]; exact x1, x2, x3, x4, by rw [← e1 10 i (by omega) (by omega)]; exact x5, x6, x7, by rw [← e2]; exact x8, x9, x10⟩
  have a1 : ∀ b y, b ≠ 5 → ¬ (11 ≤ b ∧ b ≤ 19) → actN A t T b y = A b y := fun b y h1 h2 => actN_g (by omega) (by omega) T
  have a17 : ∀ y, actN A t T 17 y = A 17 y := fun y => actN_g (by omega) (by omega) T
  have a19 : ∀ y, actN A t T 19 y = A 19 y := fun y => actN_g (by omega) (by omega) T
  unfold DX4_passMicrosecond
  rw [hact, mb2_s]
  by_cases hz : actN A t T 5 6 = 0
  · rw [if_pos hz]
    simp only [mlet]
    have hR1' : RC (mset (actN A t T) 5 6 1) M1 L1 T C tn1 cn1 U := RC_5 hR1 (fun b y h1 _ => mset_n (by omega))
    obtain ⟨A2, tn2, c1, c2, c3, c4, c5, ⟨Mx, Lx, c6⟩, c7⟩ := st_unsettled (Lc := Lc) (t := t) (fu := fu) (by omega) (by omega) ⟨M1, L1, hR1'⟩
    have g9 : ∀ b y, b ≠ 5 → ¬ (12 ≤ b ∧ b ≤ 15) → b ≠ 18 → A2 b y = actN A t T b y := fun b y h1 h2 h3 => (c5.1 b y h1 h2 h3).trans (mset_k h1)
    have h561 : A2 5 6 = 1 := by rw [c5.2 6 (by omega), mset_s]
    -- the class's memory behind it doesn't depend on the reference's
    have hcls : ∃ A', fX4_passMicrosecond_b36 fu (sI t) A2 Lc = some (A', Lc) ∧ ∀ A'', fX4_passMicrosecond_b36 fu (sI t) A2 Lc = some (A'', Lc) → A'' = A' := by
      have := st_uses (fu := fu) (Lc := Lc) (t := t) (by omega) ht (by omega) c4 ⟨Mx, Lx, c6⟩
      exact ⟨_, this, fun A'' h => by rw [this] at h; injection h with h; injection h with h _; exact h.symm⟩
    obtain ⟨A', k1, k2⟩ := hcls
    refine ⟨A', ?_, ?_⟩
    · rw [show (0 : Int32) = sI 0 from rfl] at c1 ⊢
      rw [c1]
      exact k1
    · rw [heq]
      obtain ⟨g, hg⟩ : ∃ g, fu = g + 3 := ⟨fu - 3, by omega⟩
      have hgo := c7 M1 L1 g (fun q => RCo A' q.2.1 q.2.2 T C (t + 1) ∧ (∃ fr, fr < 2 ^ T ∧ A' 5 5 = sI fr ∧ ∀ i, i < T → ∃ us us' mi dn, L 805 (i + 1) = sL us ∧ q.2.2 805 (i + 1) = sL us' ∧ us' < 1000000 ∧ us ≤ us' ∧ A 10 i = sI mi ∧ mi ≤ 1000 ∧ (fr.testBit i = true ↔ us < us' ∧ us' % (mi + 1) = 0) ∧ A 17 i = sI dn ∧ dn < 1000000 ∧ A' 17 i = sI (if fr.testBit i = true then dn + 1 else dn)) ∧ (∀ b y, b ≠ 5 → ¬ (11 ≤ b ∧ b ≤ 19) → A' b y = A b y) ∧ (∀ b y, (b < 787 ∨ 820 < b) → q.2.1 b y = M b y) ∧ ∀ b y, (b < 787 ∨ 820 < b) → q.2.2 b y = L b y) hR1' ?_
      · rw [← hg] at hgo
        exact hgo
      · intro M2 L2 hR2 hlo
        obtain ⟨A'', t1, t2⟩ := st_tail (fu := fu) (A0 := A) (M0 := M) (L0 := L) (Lc := Lc) (cut := cut) hf ht hR2 c4 (by rw [hlo.2 787 43 (by omega) (by omega)]; exact hN1) b3 (by omega) (by omega) h561 hW (fun y => (g9 19 y (by omega) (by omega) (by omega)).trans (a19 y)) (fun y => (hlo.1 820 y (by omega)).trans (hal.1 820 y (by omega) (by omega))) (hAL1 A2 M2 L2 (fun j => g9 11 j (by omega) (by omega) (by omega)) (fun j => g9 9 j (by omega) (by omega) (by omega)) (hlo.1 787 32 (by omega)) (fun k => hlo.1 812 k (by omega)) (fun k => hlo.2 813 k (by omega) (by omega)))
        have := k2 A'' t1
        subst this
        refine wq_mono t2 (fun q hq => hfin A2 M2 L2 q A'' ?_ ?_ ?_ ?_ ?_ hq)
        · intro b y h1 h2
          exact (g9 b y h1 (by omega) (by omega)).trans (a1 b y h1 h2)
        · intro y
          exact (g9 17 y (by omega) (by omega) (by omega)).trans (a17 y)
        · intro b y h1
          exact (hlo.1 b y (by omega)).trans (hal.1 b y (by omega) (by omega))
        · intro b y h1
          exact (hlo.2 b y (by omega) (by omega)).trans (hal.2 b y (by omega) (by omega))
        · intro y
          exact (hlo.2 805 y (by omega) (by omega)).trans (hal.2 805 y (by omega) (by omega))
  · rw [if_neg hz]
    have hsame : actN A t T = A := by
      rcases actN_56 (A := A) (t := t) T (Nat.le_refl _) with q | q
      · exact q
      · exact absurd q hz
    rw [hsame] at hR1 hz hAL1 ⊢
    have h561 : A 5 6 = 1 := by
      rcases h56 with q | q
      · exact absurd q hz
      · exact q
    have hS := hSA h561
    obtain ⟨A', t1, t2⟩ := st_tail (fu := fu) (A0 := A) (M0 := M) (L0 := L) (Lc := Lc) (cut := cut) hf ht hR1 hS hN1 b3 (by omega) (by omega) h561 hW (fun _ => rfl) (fun y => hal.1 820 y (by omega) (by omega)) (hAL1 A M1 L1 (fun _ => rfl) (fun _ => rfl) rfl (fun _ => rfl) (fun _ => rfl))
    refine ⟨A', t1, ?_⟩
    rw [heq]
    obtain ⟨g, hg⟩ : ∃ g, fu = g + 2 := ⟨fu - 2, by omega⟩
    have hgo := m_settled (fu := fu) (f := g) (by omega) hR1 hS (wq_mono t2 (fun q hq => hfin A M1 L1 q A' (fun _ _ _ _ => rfl) (fun _ => rfl) (fun b y h1 => hal.1 b y (by omega) (by omega)) (fun b y h1 => hal.2 b y (by omega) (by omega)) (fun y => hal.2 805 y (by omega) (by omega)) hq))
    rw [← hg] at hgo
    exact hgo
