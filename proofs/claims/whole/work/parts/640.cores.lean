abbrev locA (A A' : mwM) (c : Nat) : Prop := (∀ b y, b ≠ 5 → ¬ (12 ≤ b ∧ b ≤ 15) → ¬ (b = 18 ∧ y = c) → A' b y = A b y) ∧ (∀ y, y ≠ 4 → A' 5 y = A 5 y) ∧ ∀ b x, ¬ A 8 x = sI c → 12 ≤ b → b ≤ 15 → A' b x = A b x
abbrev locM (M M' : mwM) (L L' : mwL) : Prop := (∀ b y, ¬ (b = 796 ∨ b = 798 ∨ b = 799 ∨ b = 801 ∨ b = 802 ∨ b = 804) → M' b y = M b y) ∧ ∀ b y, ¬ (b = 797 ∨ b = 800) → ¬ (b = 787 ∧ y = 21) → L' b y = L b y
theorem locA_tr {A A1 A2 : mwM} {c : Nat} (h : locA A A1 c) (h2 : locA A1 A2 c) : locA A A2 c := by
  obtain ⟨a1, a2, a3⟩ := h
  obtain ⟨b1, b2, b3⟩ := h2
  refine ⟨fun b y q1 q2 q3 => (b1 b y q1 q2 q3).trans (a1 b y q1 q2 q3), fun y q => (b2 y q).trans (a2 y q), fun b x q1 q2 q3 => ?_⟩
  have e8 : A1 8 x = A 8 x := a1 8 x (by omega) (by omega) (by omega)
  exact (b3 b x (by rw [e8]; exact q1) q2 q3).trans (a3 b x q1 q2 q3)
theorem locA_ch {A : mwM} {c T : Nat} {w b : Option Nat} (hw : ∀ x, w = some x → A 8 x = sI c) (hb : ∀ x, b = some x → A 8 x = sI c) : locA A (chA A c w b) c := by
  refine ⟨fun a y q1 q2 q3 => chA_f (by omega) q3, fun y q => chA_f (by omega) (by omega), fun a x q1 q2 q3 => ?_⟩
  by_cases h12 : a = 12
  · subst h12
    rw [chA_12, if_neg (fun q => q1 (hb x q)), if_neg (fun q => q1 (hw x q))]
  · exact chA_f h12 (by omega)
theorem locA_end {A : mwM} {c i : Nat} (h8 : A 8 i = sI c) : locA A (endA A c i) c := by
  refine ⟨fun b y q1 q2 q3 => endA_f (by omega) q3 (by omega), fun y q => endA_f (by omega) (by omega) (by omega), fun b x q1 q2 q3 => endA_f ?_ (by omega) (by omega)⟩
  rintro ⟨e, _⟩
  subst e
  exact q1 h8
theorem c_settle1 {fu : Nat} {A1 : mwM} {L : mwL} {c x v2 lf wa : Nat} {r : Int32 × mwM × mwL → Option (mwM × mwL)} {A : mwM} (hc : c < 6) (hx : x < 12) (hv : v2 ≤ 24) (hch : DX4_choose fu (sI c) A L = some (A1, L)) (h18 : A1 18 c = sI x) (h13 : A1 13 x = sI lf) (hlf : lf ≤ 2000) (h14 : A1 14 x = sI wa) (hwa : wa < 2) : fX4_settle_i2 fu (sI c) r (sI v2) A L = if lf = 0 then r (sI (v2 + 1), endA A1 c x, L) else some (A1, L) := by
  unfold fX4_settle_i2 fX4_settle_b36 fX4_settle_b83
  rw [if_neg (by rw [sI_llt (by omega) (by omega)]; omega), hch, mb2_s, mck_s (by omega) (by omega), sI_nn (by omega), h18]
  simp only [mlet]
  rw [if_neg (by rw [sI_ltl (by omega) (by decide)]; exact Nat.not_lt_zero _), mck_s (by omega) (by omega), sI_nn (by omega), h13]
  by_cases h0 : lf = 0
  · subst h0
    rw [if_pos (by decide), if_pos rfl, mck_s (by omega) (by omega), mck_s (by omega) (by omega), mck_s (by omega) (by omega), mset_k (a := 14) (by decide), mset_k (a := 14) (by decide), h14, sI_1]
    unfold endA
    have hw01 : wa = 0 ∨ wa = 1 := by omega
    rcases hw01 with hw | hw
    · rw [hw, if_pos (by decide), if_pos (by rw [h14, hw]; rfl)]
    · rw [hw, if_neg (by decide), if_neg (by rw [h14, hw]; decide), mck_s (by omega) (by omega), mck_s (by omega) (by omega), show sI 1 - 1 = 0 from by decide]
      have hr : DX4_makeReady fu (sI x) (mset (mset (mset A1 12 x 0) 18 c (-1)) 14 x 0) L = some (mset (mset (mset (mset (mset (mset (mset A1 12 x 0) 18 c (-1)) 14 x 0) 5 4 (A1 5 4 + 1)) 12 x 1) 15 x (A1 5 4 + 1)) 13 x (A1 10 x + 1), L) := by
        unfold DX4_makeReady
        simp (disch := omega) only [mlet, mck_s, sI_nn]
        rw [show mset (mset (mset A1 12 x 0) 18 c (-1)) 14 x 0 5 4 = A1 5 4 from by rw [mset_k (by decide), mset_k (by decide), mset_k (by decide)]]
        rw [show mset (mset (mset (mset (mset A1 12 x 0) 18 c (-1)) 14 x 0) 5 4 (A1 5 4 + 1)) 12 x 1 5 4 = A1 5 4 + 1 from by rw [mset_k (by decide), mset_s]]
        rw [show mset (mset (mset (mset (mset (mset A1 12 x 0) 18 c (-1)) 14 x 0) 5 4 (A1 5 4 + 1)) 12 x 1) 15 x (A1 5 4 + 1) 10 x = A1 10 x from by rw [mset_k (by decide), mset_k (by decide), mset_k (by decide), mset_k (by decide), mset_k (by decide), mset_k (by decide)]]
      rw [hr, mb2_s]
  · rw [if_neg (by rw [sI_lel (by omega) (by decide)]; exact fun q => h0 (Nat.le_zero.mp q)), if_neg h0]
theorem RC_tn {A M M2 : mwM} {L L2 : mwL} {T C tn cn U tn2 cn2 : Nat} (h : RC A M L T C tn cn U) (h2 : RC A M2 L2 T C tn2 cn2 U) : tn2 = tn := by
  obtain ⟨_, _, b1, _, _, _, _, _, e1, _⟩ := h
  obtain ⟨_, _, b2, _, _, _, _, _, e2, _⟩ := h2
  rw [e1] at e2
  exact ((sI_eq (by omega) (by omega)).mp e2).symm
theorem oI_inj {w b : Option Nat} {T : Nat} (hT : T ≤ 12) (hw : ∀ x, w = some x → x < T) (hb : ∀ x, b = some x → x < T) (h : oI w = oI b) : w = b := by
  cases w with
  | none =>
    cases b with
    | none => rfl
    | some y =>
      have hy := hb y rfl
      have e2 : (-1 : Int32) = sI y := h
      have := m1_lt (b := y) (by omega)
      rw [← e2] at this
      exact absurd this (by decide)
  | some x =>
    have hx := hw x rfl
    cases b with
    | none =>
      have e2 : sI x = (-1 : Int32) := h
      have := m1_lt (b := x) (by omega)
      rw [e2] at this
      exact absurd this (by decide)
    | some y =>
      have hy := hb y rfl
      have e2 : sI x = sI y := h
      rw [(sI_eq (by omega) (by omega)).mp e2]
theorem st_settle {fu : Nat} {Lc : mwL} {T C cn U c : Nat} (hf : 33 ≤ fu) (hc : c < 6) : ∀ (n : Nat) (A : mwM) (tn v2 f : Nat), nend A c T ≤ n → v2 + n ≤ 24 → n < f → tn + n < 100000000 → (∃ M L, RC A M L T C tn cn U) → ∃ A' b' tn', fX4_settle_h2 fu (sI c) f (sI v2, A, Lc) = some (A', Lc) ∧ tn ≤ tn' ∧ tn' ≤ tn + n ∧ stl A' c T b' ∧ (∀ x, b' = some x → x < T ∧ A' 13 x ≠ 0) ∧ locA A A' c ∧ (∃ M0 L0, RC A' M0 L0 T C tn' cn U) ∧ ∀ (M : mwM) (L : mwL) (f2 : Nat), n < f2 → RC A M L T C tn cn U → ∀ (v1 : Int32) (r42 : Int32 × mwM × mwL → Option (Int32 × mwM × mwL)) (r50 : Int32 × Int32 × mwM × mwL → Option (Int32 × mwM × mwL)) (Q : Int32 × mwM × mwL → Prop), (∀ v1' M' L', (v1' = v1 ∨ v1' = 1) → RC A' M' L' T C tn' cn U → locM M M' L L' → wq (r50 (v1', sI (c + 1), M', L')) Q) → wq (fX15_microsecond_h58 fu r42 r50 f2 (v1, sI c, M, L)) Q := by
  intro n
  induction n using Nat.strongRecOn with
  | ind n ih =>
    intro A tn v2 f hn hv hf1 htn ⟨Mx, Lx, h⟩
    obtain ⟨g, rfl⟩ : ∃ g, f = g + 1 := ⟨f - 1, by omega⟩
    have hT := h.1
    obtain ⟨w, b, v1, v2', v3, hb, hbc, hcA, hcM, hR1⟩ := st_choose (Lc := Lc) hf h hc
    have hw8 : ∀ x, w = some x → A 8 x = sI c := fun x hx => ((v3 x (v2' x hx)).mpr hx).1
    have hw12 : ∀ x, w = some x → A 12 x ≠ 0 := fun x hx => by rw [((v3 x (v2' x hx)).mpr hx).2]; decide
    have hb12 : ∀ x, b = some x → A 12 x ≠ 0 := by
      intro x hx
      rcases bsN_st T x (hb ▸ hx) with hw | ⟨hq, _⟩
      · exact hw12 x hw
      · rw [hq]; decide
    have hstl : stl (chA A c w b) c T b := by rw [hb]; exact stl_choose v3 v2'
    have hloc : locA A (chA A c w b) c := locA_ch (T := T) hw8 (fun x hx => (hbc x hx).2)
    have hne : nend (chA A c w b) c T = nend A c T := nend_ch hw12 hb12
    -- the reference's side of the choice, at any memory that fits
    have mod : ∀ (M : mwM) (L : mwL), RC A M L T C tn cn U → RC (chA A c w b) (chM M w b) L T C tn cn U ∧ locM M (chM M w b) L L ∧ (b = none → DX15_step fu (sI c) M L = some (0, chM M w b, L)) ∧ (∀ x, b = some x → chA A c w b 13 x ≠ 0 → DX15_step fu (sI c) M L = some (0, chM M w b, L)) ∧ (∀ x, b = some x → chA A c w b 13 x = 0 → DX15_step fu (sI c) M L = mb2 (DX15_ends fu (sI (x + 1)) (chM M w b) L) (fun M20 L21 => some (1, M20, L21))) := by
      intro M L hR
      obtain ⟨w', b', u1, u2, u3, ub, ubc, ucA, ucM, uR⟩ := st_choose (Lc := Lc) hf hR hc
      have ew : w' = w := oI_inj hT u2 v2' (by rw [← u1, v1])
      subst ew
      have eb : b' = b := by rw [ub, hb]
      subst eb
      have h35 : M 787 35 = 0 := hR.2.2.2.2.2.2.2.2.2.2.2.1
      obtain ⟨s1, s2, s3⟩ := m_step hf hc h35 ucM uR (fun x hx => ⟨(ubc x hx).1, by rw [chA_12, if_pos hx]⟩)
      exact ⟨uR, ⟨fun a y q => chM_f (by omega) (by omega), fun _ _ _ _ => rfl⟩, s1, s2, s3⟩
    cases hbb : b with
    | none =>
      rw [hbb] at hcA hR1 hstl hloc mod
      refine ⟨chA A c w none, none, tn, ?_, Nat.le_refl _, by omega, hstl, (fun x hx => by cases hx), hloc, ⟨_, _, hR1⟩, ?_⟩
      · unfold fX4_settle_h2
        rw [mloop_S]
        show fX4_settle_i2 fu (sI c) _ (sI v2) A Lc = _
        unfold fX4_settle_i2 fX4_settle_b36
        rw [if_neg (by rw [sI_llt (by omega) (by omega)]; omega), hcA, mb2_s, mck_s (by omega) (by omega), sI_nn (by omega), chA_18]
        rfl
      · intro M L f2 hf2 hR v1' r42 r50 Q hQ
        obtain ⟨g2, rfl⟩ : ∃ g2, f2 = g2 + 1 := ⟨f2 - 1, by omega⟩
        obtain ⟨p1, p2, s1, _, _⟩ := mod M L hR
        unfold fX15_microsecond_h58
        rw [mloop_S]
        show wq (fX15_microsecond_i58 fu r42 r50 _ v1' (sI c) M L) _
        unfold fX15_microsecond_i58
        rw [s1 rfl, mb3_s, if_pos rfl]
        simp only [mlet]
        rw [sI_1]
        exact hQ v1' _ _ (Or.inl rfl) p1 p2
    | some x =>
      have hx := hbc x hbb
      rw [hbb] at hcA hR1 hstl hloc mod hne
      have hRC1 := hR1
      obtain ⟨_, _, _, _, _, _, _, _, _, _, _, _, _, _, _, ht1', _⟩ := hRC1
      obtain ⟨rk, co, pe, mi, nx, st, lf, wa, tu, us, dn, q1, q2, q3⟩ := ht1' x hx.1
      obtain ⟨w1, w2, w3, w4, w5, w6, w7, w8, w9, w10, w11, w12, w13, w14, w15, w16⟩ := q1
      obtain ⟨k1, k2, k3, k4, k5, k6, k7, k8, k9, k10, k11⟩ := q2
      have hcs := c_settle1 (r := fX4_settle_h2 fu (sI c) g) hc (show x < 12 by omega) (show v2 ≤ 24 by omega) hcA chA_18 k7 (by omega) k8 w10
      by_cases h0 : lf = 0
      · subst h0
        rw [if_pos rfl] at hcs
        have e8 : chA A c w (some x) 8 x = sI c := by rw [chA_f (by decide) (by omega)]; exact hx.2
        have e12 : chA A c w (some x) 12 x = 2 := by rw [chA_12, if_pos rfl]
        have hlt := nend_end (A := chA A c w (some x)) hx.1 e8 (by rw [e12]; decide) k7 k4 w6 k8 w10
        obtain ⟨M2, L2, tn2, he, t1, t2, hR2, _, _⟩ := st_end hf hR1 (by omega) hc hx.1 e8 e12 k7
        obtain ⟨A', b', tn', i1, i2, i3, i4, i5, i6, i7, i8⟩ := ih (n - 1) (by omega) (endA (chA A c w (some x)) c x) tn2 (v2 + 1) g (by omega) (by omega) (by omega) (by omega) ⟨M2, L2, hR2⟩
        refine ⟨A', b', tn', ?_, by omega, by omega, i4, i5, locA_tr (locA_tr hloc (locA_end e8)) i6, i7, ?_⟩
        · unfold fX4_settle_h2
          rw [mloop_S]
          show fX4_settle_i2 fu (sI c) (fX4_settle_h2 fu (sI c) g) (sI v2) A Lc = _
          rw [hcs]
          exact i1
        · intro M L f2 hf2 hR v1' r42 r50 Q hQ
          obtain ⟨g2, rfl⟩ : ∃ g2, f2 = g2 + 1 := ⟨f2 - 1, by omega⟩
          obtain ⟨p1, p2, _, _, s3⟩ := mod M L hR
          obtain ⟨M3, L3, tn3, he3, _, _, hR3, f1, f2'⟩ := st_end hf p1 (by omega) hc hx.1 e8 e12 k7
          have etn : tn3 = tn2 := RC_tn hR2 hR3
          subst etn
          unfold fX15_microsecond_h58
          rw [mloop_S]
          show wq (fX15_microsecond_i58 fu r42 r50 (fX15_microsecond_h58 fu r42 r50 g2) v1' (sI c) M L) _
          unfold fX15_microsecond_i58
          rw [s3 x rfl k7, he3, mb2_s, mb3_s, if_neg (by decide)]
          refine i8 M3 L3 g2 (by omega) hR3 1 r42 r50 Q ?_
          intro v1'' M' L' hv1 hRR hlo
          refine hQ v1'' M' L' (Or.inr (by rcases hv1 with h | h <;> exact h)) hRR ⟨?_, ?_⟩
          · intro b y q
            rw [hlo.1 b y q, f1 b y (by omega), p2.1 b y q]
          · intro b y q1' q2'
            rw [hlo.2 b y q1' q2', f2' b y (by omega) q2']
      · rw [if_neg h0] at hcs
        have hnz : chA A c w (some x) 13 x ≠ 0 := by
          rw [k7]
          intro q
          exact h0 ((sI_eq (a := lf) (b := 0) (by omega) (by omega)).mp q)
        refine ⟨chA A c w (some x), some x, tn, ?_, Nat.le_refl _, by omega, hstl, ?_, hloc, ⟨_, _, hR1⟩, ?_⟩
        · unfold fX4_settle_h2
          rw [mloop_S]
          show fX4_settle_i2 fu (sI c) (fX4_settle_h2 fu (sI c) g) (sI v2) A Lc = _
          exact hcs
        · intro y hy
          injection hy with hy
          subst hy
          exact ⟨hx.1, hnz⟩
        · intro M L f2 hf2 hR v1' r42 r50 Q hQ
          obtain ⟨g2, rfl⟩ : ∃ g2, f2 = g2 + 1 := ⟨f2 - 1, by omega⟩
          obtain ⟨p1, p2, _, s2, _⟩ := mod M L hR
          unfold fX15_microsecond_h58
          rw [mloop_S]
          show wq (fX15_microsecond_i58 fu r42 r50 _ v1' (sI c) M L) _
          unfold fX15_microsecond_i58
          rw [s2 x rfl hnz, mb3_s, if_pos rfl]
          simp only [mlet]
          rw [sI_1]
          exact hQ v1' _ _ (Or.inl rfl) p1 p2
