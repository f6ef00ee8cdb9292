/-! one bit on the bus: also while all sleep -/
def slM (M M' : mwM) : Prop := ∀ a y, ¬ (a = 821 ∧ (y = 34 ∨ y = 48)) → a ≠ 848 → a ≠ 851 → a ≠ 836 → M' a y = M a y
theorem slM_t {A B C : mwM} (h1 : slM A B) (h2 : slM B C) : slM A C := fun a y u1 u2 u3 u4 => (h2 a y u1 u2 u3 u4).trans (h1 a y u1 u2 u3 u4)
theorem m_sl_put {fu F n : Nat} {ow id dn : Nat → Nat} {oc : Nat → Nat → Nat} {M : mwM} {L : mwL} (hfu : 1300 ≤ fu) (hn : n < 7) (hM : FrM M F ow id oc dn) (hC : CA M) (hf : fsF ow id oc dn n F = 0) (h831 : M 831 n = sI 0) : ∃ M', DX12_puts fu (sI n) M L = some (1, M', L) ∧ slM M M' ∧ CA M' := by
  unfold DX12_puts fX12_puts_b23
  rw [mck_s (by omega) (by omega), sI_nn (by omega), h831, if_pos (show sI 0 = 0 from rfl)]
  obtain ⟨⟨r, M1, L1⟩, e1, y1, y2, y3, y4⟩ := m_first (fu := fu) (L := L) (by omega) hn hM
  dsimp only at y1 y2 y3 y4
  rw [hf] at y1
  rw [y1, y2] at e1
  rw [e1, mb3_s, if_pos (show fI 0 = -1 from rfl)]
  exact ⟨M1, rfl, fun a y u1 u2 u3 _ => y3 a y u1 u2 u3, y4 hC⟩
theorem m_sl_see {fu F n : Nat} {ow id dn : Nat → Nat} {oc : Nat → Nat → Nat} {M : mwM} {L : mwL} (hfu : 1300 ≤ fu) (hn : n < 7) (hM : FrM M F ow id oc dn) (hC : CA M) (hf : fsF ow id oc dn n F = 0) (h831 : M 831 n = sI 0) : ∃ M', DX12_sees fu (sI n) 1 M L = some (M', L) ∧ slM M M' ∧ CA M' := by
  unfold DX12_sees
  rw [mck_s (by omega) (by omega), sI_nn (by omega), h831, if_pos (show sI 0 = 0 from rfl), mck_s (by omega) (by omega)]
  simp only [mlet]
  obtain ⟨⟨r, M1, L1⟩, e1, y1, y2, y3, y4⟩ := m_first (fu := fu) (M := mset M 836 n 0) (L := L) (by omega) hn (FrM_fr hM (fun a y u => by simp (disch := omega) only [mset_n]))
  dsimp only at y1 y2 y3 y4
  rw [hf] at y1
  rw [y1, y2] at e1
  rw [e1, mb3_s, if_pos (show fI 0 = -1 from rfl)]
  refine ⟨M1, if_pos True.intro, fun a y u1 u2 u3 u4 => ?_, y4 (CA_fr hC (fun a y u => by simp (disch := omega) only [mset_n]))⟩
  rw [y3 a y u1 u2 u3, mset_n (by omega)]
theorem m_sl {fu N t F : Nat} {v2 : Int32} {ow id dn : Nat → Nat} {oc : Nat → Nat → Nat} {M : mwM} {L : mwL} (hfu : 1300 ≤ fu) (hN : N ≤ 7) (ht : t < 20000) (h1 : M 821 1 = sI N) (h2 : M 821 2 = sI t) (hM : FrM M F ow id oc dn) (hC : CA M) (hq : ∀ n, n < N → fsF ow id oc dn n F = 0 ∧ M 831 n = sI 0 ∧ M 838 (20000 * n + t) = sI 0) : ∃ M' x, fX12_run_h56 fu 1 (fX12_run_h45 fu 1 (fu - 1)) fu (v2, 0, 1, 0, M, L) = some (x, mset M' 821 2 (sI (t + 1)), L) ∧ slM (mset M 822 t 1) M' ∧ CA M' := by
  -- all see
  have sees : ∀ (m n g : Nat) (X : mwM), n + m = N → m < g → slM (mset M 822 t 1) X → CA X → ∃ M' x, fX12_run_h103 fu 1 (fX12_run_h45 fu 1 (fu - 1)) g (v2, 0, 1, sI n, X, L) = some (x, mset M' 821 2 (sI (t + 1)), L) ∧ slM (mset M 822 t 1) M' ∧ CA M' := by
    intro m
    induction m with
    | zero =>
      intro n g X hn hg hX hCX
      obtain ⟨g', rfl⟩ : ∃ g', g = g' + 1 := ⟨g - 1, by omega⟩
      have nN : n = N := by omega
      subst nN
      unfold fX12_run_h103
      rw [mloop_S]
      refine ⟨X, X 821 11 - v2, ?_, hX, hCX⟩
      show fX12_run_i103 fu 1 _ _ v2 0 1 (sI n) X L = _
      unfold fX12_run_i103
      rw [hX 821 1 (by omega) (by omega) (by omega) (by omega), mset_n (by omega), h1, if_pos (by rw [sI_le (by omega) (by omega)]; omega), hX 821 2 (by omega) (by omega) (by omega) (by omega), mset_n (by omega), h2, sI_1]
      simp only [mlet]
      obtain ⟨q, hq'⟩ : ∃ q, fu - 1 = q + 1 := ⟨fu - 2, by omega⟩
      rw [hq']
      unfold fX12_run_h45
      rw [mloop_S]
      show fX12_run_i45 fu 1 _ v2 (0 + 1) (mset X 821 2 (sI (t + 1))) L = _
      unfold fX12_run_i45
      rw [if_pos (by decide), mset_n (by omega)]
    | succ m ih =>
      intro n g X hn hg hX hCX
      obtain ⟨g', rfl⟩ : ∃ g', g = g' + 1 := ⟨g - 1, by omega⟩
      obtain ⟨q1, q2, q3⟩ := hq n (by omega)
      obtain ⟨M1, e1, s1, c1⟩ := m_sl_see (fu := fu) (n := n) (M := X) (L := L) (F := F) (ow := ow) (id := id) (oc := oc) (dn := dn) hfu (by omega) (FrM_fr hM (fun a y u => by rw [hX a y (by omega) (by omega) (by omega) (by omega), mset_n (by omega)])) hCX q1 (by rw [hX 831 n (by omega) (by omega) (by omega) (by omega), mset_n (by omega)]; exact q2)
      obtain ⟨M', x, e2, s2, c2⟩ := ih (n + 1) g' M1 (by omega) (by omega) (slM_t hX s1) c1
      refine ⟨M', x, ?_, s2, c2⟩
      unfold fX12_run_h103
      rw [mloop_S]
      show fX12_run_i103 fu 1 (fX12_run_h45 fu 1 (fu - 1)) (fX12_run_h103 fu 1 (fX12_run_h45 fu 1 (fu - 1)) g') v2 0 1 (sI n) X L = _
      unfold fX12_run_i103 fX12_run_b143
      rw [hX 821 1 (by omega) (by omega) (by omega) (by omega), mset_n (by omega), h1, if_neg (by rw [sI_le (by omega) (by omega)]; omega), hX 821 2 (by omega) (by omega) (by omega) (by omega), mset_n (by omega), h2, sI_lml, sI_add, mck_s (by omega) (by omega), sI_nn (by omega), hX 838 _ (by omega) (by omega) (by omega) (by omega), mset_n (by omega), q3, if_pos (show sI 0 = 0 from rfl), e1, mb2_s]
      simp only [mlet]
      rw [sI_1]
      exact e2
  have puts : ∀ (m n g : Nat) (X : mwM), n + m = N → m < g → slM M X → CA X → ∃ M' x, fX12_run_h56 fu 1 (fX12_run_h45 fu 1 (fu - 1)) g (v2, 0, 1, sI n, X, L) = some (x, mset M' 821 2 (sI (t + 1)), L) ∧ slM (mset M 822 t 1) M' ∧ CA M' := by
    intro m
    induction m with
    | zero =>
      intro n g X hn hg hX hCX
      obtain ⟨g', rfl⟩ : ∃ g', g = g' + 1 := ⟨g - 1, by omega⟩
      have nN : n = N := by omega
      subst nN
      obtain ⟨M', x, e2, s2, c2⟩ := sees n 0 fu (mset X 822 t 1) (by omega) (by omega) (fun a y u1 u2 u3 u4 => by
        by_cases z : a = 822 ∧ y = t
        · rw [z.1, z.2, mset_s, mset_s]
        · rw [mset_n z, mset_n z]
          exact hX a y u1 u2 u3 u4) (CA_fr hCX (fun a y u => mset_n (by omega)))
      refine ⟨M', x, ?_, s2, c2⟩
      unfold fX12_run_h56
      rw [mloop_S]
      show fX12_run_i56 fu 1 _ _ v2 0 1 (sI n) X L = _
      unfold fX12_run_i56
      rw [hX 821 1 (by omega) (by omega) (by omega) (by omega), h1, if_pos (by rw [sI_le (by omega) (by omega)]; omega), hX 821 2 (by omega) (by omega) (by omega) (by omega), h2, mck_s ht (by omega), sI_nn (by omega), show vp_nar .byte (1 : Int32).toInt8.toInt32 = 1 by decide]
      simp only [mlet]
      exact e2
    | succ m ih =>
      intro n g X hn hg hX hCX
      obtain ⟨g', rfl⟩ : ∃ g', g = g' + 1 := ⟨g - 1, by omega⟩
      obtain ⟨q1, q2, q3⟩ := hq n (by omega)
      obtain ⟨M1, e1, s1, c1⟩ := m_sl_put (fu := fu) (n := n) (M := X) (L := L) (F := F) (ow := ow) (id := id) (oc := oc) (dn := dn) hfu (by omega) (FrM_fr hM (fun a y u => hX a y (by omega) (by omega) (by omega) (by omega))) hCX q1 (by rw [hX 831 n (by omega) (by omega) (by omega) (by omega)]; exact q2)
      obtain ⟨M', x, e2, s2, c2⟩ := ih (n + 1) g' M1 (by omega) (by omega) (slM_t hX s1) c1
      refine ⟨M', x, ?_, s2, c2⟩
      unfold fX12_run_h56
      rw [mloop_S]
      show fX12_run_i56 fu 1 (fX12_run_h45 fu 1 (fu - 1)) (fX12_run_h56 fu 1 (fX12_run_h45 fu 1 (fu - 1)) g') v2 0 1 (sI n) X L = _
      unfold fX12_run_i56 fX12_run_b80
      rw [hX 821 1 (by omega) (by omega) (by omega) (by omega), h1, if_neg (by rw [sI_le (by omega) (by omega)]; omega), e1, mb3_s, if_neg (show ¬ (1 : Int32) = 0 by decide)]
      simp only [mlet]
      rw [sI_1]
      exact e2
  exact puts N 0 fu M (by omega) (by omega) (fun _ _ _ _ _ _ => rfl) hC
theorem h45_1 {fu k : Nat} {v2 : Int32} {M : mwM} {L : mwL} : fX12_run_h45 fu 1 (k + 1) (v2, 0, M, L) = fX12_run_h56 fu 1 (fX12_run_h45 fu 1 k) fu (v2, 0, 1, 0, M, L) := by
  have e : fX12_run_h45 fu 1 (k + 1) (v2, 0, M, L) = fX12_run_i45 fu 1 (fX12_run_h45 fu 1 k) v2 0 M L := rfl
  rw [e]
  unfold fX12_run_i45
  rw [if_neg (show ¬ (1 : Int32) ≤ 0 by decide)]
theorem NdR_q {A M : mwM} {F : Nat} {ow id : Nat → Nat} {oc : Nat → Nat → Nat} {dn : Nat → Nat} {n t ecn tcn : Nat} (h : NdR A M F ow id oc dn n t ecn tcn) (h25 : A 25 n = sI 0) : M 831 n = sI 0 ∧ 8 * ecn ≤ t ∧ 40 * tcn ≤ t := by
  rcases h with ⟨h1, h2, h3, h4⟩ | ⟨f, K, f1, f2, f3, f4, _⟩ | ⟨s, K, k1, _⟩ | ⟨st, lf, g1, g2, g3, _⟩
  · exact ⟨h2, h3, h4⟩
  · rw [f4] at h25
    exact absurd h25 (by decide)
  · rw [k1] at h25
    exact absurd h25 (by decide)
  · rw [g3] at h25
    have := sI_inj (by omega) (by omega) h25
    omega
/-- the bus passes one bit -/
theorem st_bit {fu N t F : Nat} {ow id : Nat → Nat} {oc : Nat → Nat → Nat} {dn ec tc fl : Nat → Nat} {asl : Bool} {A M : mwM} {Lc Lm : mwL} (hfu : 1300 ≤ fu) (ht : t < 20000) (hB : BusR A M N t F ow id oc dn ec tc fl asl) : ∃ (A' M' : mwM) (x : Int32) (dn' ec' tc' : Nat → Nat) (asl' : Bool) (mk : Nat), DX0_passBit fu (sI t) A Lc = some (A', Lc) ∧ DX12_run fu 1 M Lm = some (x, M', Lm) ∧ BusR A' M' N (t + 1) F ow id oc dn' ec' tc' fl asl' ∧ mk < 128 ∧ FrE A' M' N tc tc' mk ∧ (∀ a y, ¬ (20 ≤ a ∧ a ≤ 60) → A' a y = A a y) ∧ (∀ a y, ¬ (821 ≤ a ∧ a ≤ 853) → M' a y = M a y) := by
  obtain ⟨hQ, hd, hO, hF, ⟨h13, has⟩, hbit⟩ := hB
  have hG := BuG_Q hQ ht
  have hG' := hG
  obtain ⟨g1, ⟨g2, g3, g4⟩, g5, g6, hW, hC, _, _, g14, _⟩ := hG'
  have g18 := hQ.2.2.2.2.2.2.2.2.2.2.2
  -- the reference's beginning
  have run : DX12_run fu 1 M Lm = fX12_run_h56 fu 1 (fX12_run_h45 fu 1 (fu - 1)) fu ((mset M 821 0 0) 821 11, 0, 1, 0, mset M 821 0 0, Lm) := by
    unfold DX12_run fX12_run_b26
    rw [if_pos (show (0 : Int32) ≤ 1 by decide), g4, show (20000 : Int32) - sI t = sI (20000 - t) from sI_sub (a := 20000) (by omega), if_pos (show (1 : Int32) ≤ sI (20000 - t) by rw [sI_lle (by decide) (by omega)]; omega)]
    simp only [mlet]
    rw [mset_s, if_pos (show (0 : Int32) ≤ 0 by decide)]
    have h := h45_1 (fu := fu) (k := fu - 1) (v2 := (mset M 821 0 0) 821 11) (M := mset M 821 0 0) (L := Lm)
    rw [show fu - 1 + 1 = fu by omega] at h
    exact h
  rw [run]
  unfold DX0_passBit fX0_passBit_b29
  simp only [mlet]
  rw [mck_s ht (by omega), sI_nn (by omega), mset_n (show ¬ (20 = 21 ∧ 13 = t) by omega), mset_n (show ¬ (20 = 20 ∧ 13 = 12) by omega), h13, mck_s ht (by omega), mset_n (show ¬ (22 = 21 ∧ t = t) by omega), mset_n (show ¬ (22 = 20 ∧ t = 12) by omega), (hF t ht).1, show vp_nar .byte 1 = sI 1 by decide]
  generalize hA1 : mset (mset A 20 12 0) 21 t (sI 1) = A1
  have fA : ∀ a y, ¬ (a = 20 ∧ y = 12) → ¬ (a = 21 ∧ y = t) → A1 a y = A a y := fun a y u1 u2 => by rw [← hA1, mset_n u2, mset_n u1]
  have v12 : A1 20 12 = sI 0 := by rw [← hA1, mset_n (by omega), mset_s]; rfl
  have v21 : A1 21 t = sI 1 := by rw [← hA1, mset_s]
  have fM : ∀ a y, ¬ (a = 821 ∧ y = 0) → mset M 821 0 0 a y = M a y := fun a y u => mset_n u
  have hO1 : OcA A1 := fun n hn => by
    obtain ⟨o, ho⟩ := hO n hn
    exact ⟨o, OcR_f ho (fun y => fA _ y (by omega) (by omega))⟩
  have hF1 : FlR A1 (mset M 821 0 0) fl := fun t' ht' => by
    obtain ⟨q1, q2, q3⟩ := hF t' ht'
    exact ⟨by rw [fA 22 t' (by omega) (by omega)]; exact q1, q2, fun k hk => by rw [fM 838 _ (by omega)]; exact q3 k hk⟩
  have hG1 : BuG A1 (mset M 821 0 0) N t F ow id oc dn ec tc := BuG_fr hG (fun a y u => fA a y (by omega) (by omega)) (fun a y u => fM a y (by omega)) (WC_fr hW (fun a y u => fM a y (by omega))) (CA_fr hC (fun a y u => fM a y (by omega)))
  by_cases slp : asl = true ∧ fl t = 0
  · -- all sleep
    obtain ⟨s1, s2⟩ := slp
    have hs := has s1
    rw [s1, if_neg (show ¬ bI true = 0 by decide), s2, if_pos (show sI 0 = 0 from rfl)]
    have hq : ∀ n, n < N → fsF ow id oc dn n F = 0 ∧ (mset M 821 0 0) 831 n = sI 0 ∧ (mset M 821 0 0) 838 (20000 * n + t) = sI 0 := fun n hn => by
      obtain ⟨z1, z2⟩ := hs n hn
      have cle := cnt_le (fun f => decide (ow f = n ∧ dn f = 0)) F
      have w := (g14 n (by omega)).1
      have hF2 := g5.2.1
      refine ⟨(fs_cnt F).mpr (sI_inj (by omega) (by omega) (w.symm.trans z2)), by rw [fM 831 n (by omega)]; exact (NdR_q (hd n hn) z1).1, ?_⟩
      rw [fM 838 _ (by omega), (hF t ht).2.2 n (by omega), s2, Nat.zero_div]
    obtain ⟨M', x, e1, m1, c1⟩ := m_sl (fu := fu) (v2 := (mset M 821 0 0) 821 11) (L := Lm) hfu g1.2.1 ht hG1.2.1.2.1 hG1.2.1.2.2 hG1.2.2.2.1 hG1.2.2.2.2.2.1 hq
    rw [e1]
    have fM' : ∀ a y, ¬ (a = 821 ∧ (y = 0 ∨ y = 34 ∨ y = 48)) → ¬ (a = 822 ∧ y = t) → a ≠ 848 → a ≠ 851 → a ≠ 836 → M' a y = M a y := fun a y u1 u2 u3 u4 u5 => by rw [m1 a y (by omega) u3 u4 u5, mset_n u2, fM a y (by omega)]
    have hG2 : BuG A1 M' N t F ow id oc dn ec tc := BuG_fr hG (fun a y u => fA a y (by omega) (by omega)) (fun a y u => fM' a y (by omega) (by omega) (by omega) (by omega) (by omega)) (WC_fr hW (fun a y u => fM' a y (by omega) (by omega) (by omega) (by omega) (by omega))) c1
    refine ⟨A1, _, x, dn, ec, tc, true, 0, rfl, rfl, ⟨BuQ_G hG2, fun n hn => ?_, hO1, fun t' ht' => ?_, ⟨by rw [fA 20 13 (by omega) (by omega), h13, s1], fun _ n hn => ?_⟩, fun i hi => ?_⟩, by omega, ⟨v12, fun n hn => Or.inr ⟨by rw [Nat.zero_div], rfl⟩⟩, fun a y u => fA a y (by omega) (by omega), fun a y u => ?_⟩
    · obtain ⟨z1, z2⟩ := hs n hn
      obtain ⟨z3, z4, z5⟩ := NdR_q (hd n hn) z1
      exact Or.inl ⟨by rw [fA 25 n (by omega) (by omega)]; exact z1, by rw [mset_n (by omega), fM' 831 n (by omega) (by omega) (by omega) (by omega) (by omega)]; exact z3, by omega, by omega⟩
    · obtain ⟨q1, q2, q3⟩ := hF t' ht'
      exact ⟨by rw [fA 22 t' (by omega) (by omega)]; exact q1, q2, fun k hk => by rw [mset_n (by omega), fM' 838 _ (by omega) (by omega) (by omega) (by omega) (by omega)]; exact q3 k hk⟩
    · rw [fA 25 n (by omega) (by omega), fA 30 n (by omega) (by omega)]
      exact hs n hn
    · rw [mset_n (by omega)]
      by_cases z : i = t
      · rw [z, v21, m1 822 t (by omega) (by omega) (by omega) (by omega), mset_s]
        rfl
      · rw [fA 21 i (by omega) (by omega), fM' 822 i (by omega) (by omega) (by omega) (by omega) (by omega)]
        exact hbit i (by omega)
    · rw [mset_n (by omega)]
      exact fM' a y (by omega) (by omega) (by omega) (by omega) (by omega)
  · -- awake
    have B0 : bitF A M A1 (mset M 821 0 0) := ⟨fun a y u => fA a y (by omega) (by omega), fun a y u => fM a y (by omega), fun a y u => fA a y (by omega) (by omega), fun a y u => fM a y (by omega), fun y u1 u2 u3 u4 => fA 20 y (by omega) (by omega)⟩
    obtain ⟨bb, hbb, A2, M2, x, dn', ec', tc', mk, asl', e1, e2, G2, N2, O2, m2, E2, a13, aa, B2, bi, b21, b22, _⟩ := all_put (v2 := (mset M 821 0 0) 821 11) (fl := fl) (A0 := A) (M0 := M) (Lc := Lc) (Lm := Lm) hfu g1.2.1 N 0 fu fu A1 (mset M 821 0 0) 1 (by omega) (by omega) (by omega) (by omega) hG1 (fun k u => by omega) (fun k u1 u2 => NdR_e (hd k u2) (fun a y w1 w2 => fA a y (by omega) (by omega)) (fun a y w1 w2 => fM a y (by omega))) hO1 hF1 v12 B0 (fun i u => ⟨fA 21 i (by omega) (by omega), fM 822 i (by omega)⟩)
    have e1' : fX0_passBit_h33 fu (sI t) fu (1, 0, A1, Lc) = some (A2, Lc) := e1
    have e2' : fX12_run_h56 fu 1 (fX12_run_h45 fu 1 (fu - 1)) fu ((mset M 821 0 0) 821 11, 0, 1, 0, mset M 821 0 0, Lm) = some (x, mset M2 821 2 (sI (t + 1)), Lm) := e2
    have cls : (if bI asl = 0 then fX0_passBit_h33 fu (sI t) fu (1, 0, A1, Lc) else if sI (fl t) = 0 then some (A1, Lc) else fX0_passBit_h33 fu (sI t) fu (1, 0, A1, Lc)) = some (A2, Lc) := by
      rw [e1']
      cases ha : asl with
      | false => rw [if_pos (show bI false = 0 from rfl)]
      | true =>
        have fz : ¬ fl t = 0 := fun z => slp ⟨ha, z⟩
        have := (hF t ht).2.1
        rw [if_neg (show ¬ bI true = 0 by decide), if_neg (show ¬ sI (fl t) = 0 by rw [sI_eql (by omega) (by decide)]; exact fz)]
    rw [cls, e2']
    refine ⟨A2, _, x, dn', ec', tc', asl', mk, rfl, rfl, ⟨BuQ_G G2, fun n hn => NdR_e (N2 n hn) (fun _ _ _ _ => rfl) (fun a y w1 w2 => mset_n (by omega)), O2, fun t' ht' => ?_, ⟨a13, aa⟩, fun i hi => ?_⟩, m2, ⟨E2.1, fun n hn => ?_⟩, B2.1, fun a y u => ?_⟩
    · obtain ⟨q1, q2, q3⟩ := hF t' ht'
      exact ⟨by rw [B2.2.2.1 22 t' rfl]; exact q1, q2, fun k hk => by rw [mset_n (by omega), B2.2.2.2.1 838 _ rfl]; exact q3 k hk⟩
    · rw [mset_n (by omega)]
      by_cases z : i = t
      · rw [z, b21, b22]
      · rw [(bi i z).1, (bi i z).2]
        exact hbit i (by omega)
    · rcases E2.2 n hn with ⟨z1, z2, z3, k, z4, z5, z6, z7⟩ | z
      · exact Or.inl ⟨z1, z2, z3, k, z4, z5, by rw [mset_n (by omega)]; exact z6, TkE_fr z7 (fun _ _ _ => rfl) (fun a y w => mset_n (by omega))⟩
      · exact Or.inr z
    · rw [mset_n (by omega)]
      exact B2.2.1 a y u
/-! a frame is given to the bus -/
theorem c_send0 {fu n ident row n3 F w : Nat} {q : Nat → Nat} {A : mwM} {L : mwL} (hfu : 20 ≤ fu) (hn : n < 7) (hF : A 20 9 = sI F) (hF2 : F < 200) (hw : A 30 n = sI w) (hn3 : 8 ≤ n3) (hn4 : n3 < 1000) (hrow : row ≠ 20 ∧ row ≠ 43 ∧ row ≠ 44 ∧ row ≠ 45 ∧ row ≠ 46) (hq : ∀ i, i < 8 → A row i = sI (q i)) : wq (DX0_send fu (sI n) (sI ident) row n3 A L) (fun z => z.1 = 1 ∧ z.2.2 = L ∧ z.2.1 43 F = sI n ∧ z.2.1 44 F = sI ident ∧ z.2.1 45 F = sI 0 ∧ (∀ i, i < 8 → z.2.1 46 (8 * F + i) = sI (q i)) ∧ z.2.1 20 9 = sI (F + 1) ∧ z.2.1 30 n = sI (w + 1) ∧ z.2.1 20 13 = bI false ∧ ∀ a y, ¬ ((a = 43 ∨ a = 44 ∨ a = 45) ∧ y = F) → ¬ (a = 46 ∧ 8 * F ≤ y ∧ y < 8 * F + 8) → ¬ (a = 20 ∧ (y = 9 ∨ y = 13)) → ¬ (a = 30 ∧ y = n) → z.2.1 a y = A a y) := by
  unfold DX0_send
  rw [hF, if_pos (by rw [sI_ltl (by omega) (by decide)]; exact hF2)]
  simp only [mlet]
  simp (disch := omega) only [mck_s, sI_nn, mset_n, hF]
  generalize hA1 : mset (mset (mset A 43 F (sI n)) 44 F (sI ident)) 45 F 0 = A1
  have f1 : ∀ a y, ¬ ((a = 43 ∨ a = 44 ∨ a = 45) ∧ y = F) → A1 a y = A a y := fun a y u => by
    rw [← hA1]
    simp (disch := omega) only [mset_n]
  have v1 : A1 43 F = sI n ∧ A1 44 F = sI ident ∧ A1 45 F = sI 0 := by
    rw [← hA1]
    simp (disch := omega) only [mset_n, mset_s]
    exact ⟨(by first | trivial | rfl), (by first | trivial | rfl), (by first | trivial | rfl)⟩
  refine wq_for (body := fun r z => fX0_send_i51 fu (sI n) (sI ident) row n3 r z.1 z.2.1 z.2.2) (fun i (x : mwM) => (sI i, x, L)) (fun i x => (∀ j, j < i → x 46 (8 * F + j) = sI (q j)) ∧ ∀ a y, ¬ (a = 46 ∧ 8 * F ≤ y ∧ y < 8 * F + 8) → x a y = A1 a y) 8 ?_ ?_ 8 0 A1 fu (by omega) (by omega) ⟨fun j u => by omega, fun _ _ _ => rfl⟩
  · intro i x r hi ⟨x1, x2⟩ ih
    show wq (fX0_send_i51 fu (sI n) (sI ident) row n3 r (sI i) x L) _
    unfold fX0_send_i51
    rw [if_neg (by rw [sI_lle (by decide) (by omega)]; omega), mck_s (by omega) (by omega), x2 20 9 (by omega), f1 20 9 (by omega), hF, sI_lml, sI_add, mck_s (by omega) (by omega), sI_nn (by omega), sI_nn (by omega), x2 row i (by omega), f1 row i (by omega), hq i hi]
    simp only [mlet]
    rw [sI_1]
    refine ih _ ⟨fun j u => ?_, fun a y u => by rw [mset_n (by omega)]; exact x2 a y u⟩
    by_cases z : j = i
    · rw [z, mset_s]
    · rw [mset_n (by omega)]
      exact x1 j (by omega)
  · intro x r ⟨x1, x2⟩
    show wq (fX0_send_i51 fu (sI n) (sI ident) row n3 r (sI 8) x L) _
    unfold fX0_send_i51
    rw [if_pos (by decide), x2 20 9 (by omega), f1 20 9 (by omega), hF, sI_1]
    simp only [mlet]
    rw [mck_s hn (by omega), mck_s hn (by omega), sI_nn (by omega), mset_n (by omega), x2 30 n (by omega), f1 30 n (by omega), hw, sI_1]
    refine wq_some ⟨rfl, rfl, ?_, ?_, ?_, fun i u => ?_, ?_, ?_, ?_, fun a y u1 u2 u3 u4 => ?_⟩
    · dsimp only
      rw [mset_n (by omega), mset_n (by omega), mset_n (by omega), x2 43 F (by omega)]; exact v1.1
    · dsimp only
      rw [mset_n (by omega), mset_n (by omega), mset_n (by omega), x2 44 F (by omega)]; exact v1.2.1
    · dsimp only
      rw [mset_n (by omega), mset_n (by omega), mset_n (by omega), x2 45 F (by omega)]; exact v1.2.2
    · dsimp only
      rw [mset_n (by omega), mset_n (by omega), mset_n (by omega)]; exact x1 i u
    · dsimp only
      rw [mset_n (by omega), mset_n (by omega), mset_s]
    · dsimp only
      rw [mset_n (by omega), mset_s]
    · dsimp only
      rw [mset_s]
      rfl
    · dsimp only
      rw [mset_n (by omega), mset_n (by omega), mset_n (by omega), x2 a y u2, f1 a y u1]
theorem m_noNode {fu n N : Nat} {M : mwM} {L : mwL} (h1 : M 821 1 = sI N) (hN : N ≤ 7) (hn : n < N) : DX12_noNode fu (sI n) M L = some (0, M, L) := by
  unfold DX12_noNode fX12_noNode_b17
  simp only [mzz_0, mzz_1]
  rw [if_neg (by rw [sI_ltl (by omega) (by decide)]; omega), h1, if_pos (by rw [sI_lt (by omega) (by omega)]; exact hn)]
theorem m_send_b49 {fu n N ident : Nat} {M : mwM} {L : mwL} (h1 : M 821 1 = sI N) (hN : N ≤ 7) (hn : n < N) (hid : ident < 2048) : DX12_send fu (sI n) (sI ident) 0 8 M L = (if M 821 4 = 200 then fX12_send_b88 fu (sI n) (sI ident) 0 8 3 M L else fX12_send_b88 fu (sI n) (sI ident) 0 8 0 M L) := by
  unfold DX12_send fX12_send_b41 fX12_send_b49
  rw [if_neg (show ¬ (0 : Int32) < 0 by decide), if_neg (show ¬ (5 : Int32) < 0 by decide), if_neg (show ¬ (8 : Int32) < 0 by decide), if_neg (show ¬ (15 : Int32) < 8 by decide), if_neg (show ¬ sI ident < 0 by rw [sI_ltl (by omega) (by decide)]; omega), if_neg (show ¬ ((0 : Int32) - 0 / 2 * 2) = 1 by decide), if_neg (show ¬ (2048 : Int32) ≤ sI ident by rw [sI_lle (by decide) (by omega)]; omega), m_noNode h1 hN hn, mb3_s, if_pos (show (0 : Int32) = 0 from rfl), if_neg (show ¬ (1 : Int32) = 0 by decide)]
theorem m_send12 {fu n N ident F : Nat} {M : mwM} {L : mwL} (hfu : 100 ≤ fu) (h1 : M 821 1 = sI N) (hN : N ≤ 7) (hn : n < N) (hid : ident < 2048) (hF : M 821 4 = sI F) (hF2 : F < 200) : wq (DX12_send fu (sI n) (sI ident) 0 8 M L) (fun z => z.1 = sI F ∧ z.2.2 = L ∧ z.2.1 821 0 = 0 ∧ z.2.1 821 4 = sI (F + 1) ∧ z.2.1 823 F = sI n ∧ z.2.1 824 F = sI ident ∧ z.2.1 825 F = 0 ∧ z.2.1 826 F = 8 ∧ z.2.1 828 F = sI 0 ∧ ∀ a y, ¬ (a = 821 ∧ (y = 0 ∨ y = 4)) → ¬ ((823 ≤ a ∧ a ≤ 826 ∨ a = 828) ∧ y = F) → ¬ (a = 827 ∧ 64 * F ≤ y ∧ y < 64 * F + 64) → z.2.1 a y = M a y) := by
  rw [m_send_b49 h1 hN hn hid, hF, if_neg (by rw [sI_eql (by omega) (by decide)]; omega)]
  unfold fX12_send_b88
  simp only [mlet]
  rw [mset_s, if_pos (show (0 : Int32) ≤ 0 by decide)]
  simp (disch := omega) only [mck_s, sI_nn, mset_n, hF]
  generalize hM1 : mset (mset (mset (mset (mset (mset M 821 0 0) 823 F (sI n)) 824 F (sI ident)) 825 F 0) 826 F 8) 828 F (vp_nar .boolean 0) = M1
  have f1 : ∀ a y, ¬ (a = 821 ∧ y = 0) → ¬ ((823 ≤ a ∧ a ≤ 826 ∨ a = 828) ∧ y = F) → M1 a y = M a y := fun a y u1 u2 => by
    rw [← hM1]
    simp (disch := omega) only [mset_n]
  have v1 : M1 821 0 = 0 ∧ M1 823 F = sI n ∧ M1 824 F = sI ident ∧ M1 825 F = 0 ∧ M1 826 F = 8 ∧ M1 828 F = sI 0 := by
    rw [← hM1]
    simp (disch := omega) only [mset_n, mset_s]
    exact ⟨(by first | trivial | rfl), (by first | trivial | rfl), (by first | trivial | rfl), (by first | trivial | rfl), (by first | trivial | rfl), (by first | trivial | rfl)⟩
  refine wq_for (body := fun r z => fX12_send_i154 fu (sI n) (sI ident) 0 8 r z.1 z.2.1 z.2.2) (fun i (x : mwM) => (sI i, x, L)) (fun i x => ∀ a y, ¬ (a = 827 ∧ 64 * F ≤ y ∧ y < 64 * F + 64) → x a y = M1 a y) 64 ?_ ?_ 64 0 M1 fu (by omega) (by omega) (fun _ _ _ => rfl)
  · intro i x r hi x2 ih
    show wq (fX12_send_i154 fu (sI n) (sI ident) 0 8 r (sI i) x L) _
    unfold fX12_send_i154
    rw [if_neg (by rw [sI_lle (by decide) (by omega)]; omega), x2 821 4 (by omega), f1 821 4 (by omega) (by omega), hF, sI_lml, sI_add, mck_s (by omega) (by omega), sI_nn (by omega)]
    simp only [mlet]
    rw [sI_1]
    exact ih _ (fun a y u => by rw [mset_n (by omega)]; exact x2 a y u)
  · intro x r x2
    show wq (fX12_send_i154 fu (sI n) (sI ident) 0 8 r (sI 64) x L) _
    unfold fX12_send_i154
    rw [if_pos (by decide), x2 821 4 (by omega), f1 821 4 (by omega) (by omega), hF, sI_1]
    simp only [mlet]
    rw [mset_s, sI_m1]
    have g : ∀ a y, ¬ (a = 821 ∧ y = 4) → ¬ (a = 827 ∧ 64 * F ≤ y ∧ y < 64 * F + 64) → mset x 821 4 (sI (F + 1)) a y = M1 a y := fun a y u1 u2 => by rw [mset_n u1, x2 a y u2]
    refine wq_some ⟨rfl, rfl, ?_, ?_, ?_, ?_, ?_, ?_, ?_, fun a y u1 u2 u3 => ?_⟩
    · dsimp only
      rw [g 821 0 (by omega) (by omega)]; exact v1.1
    · dsimp only
      rw [mset_s]
    · dsimp only
      rw [g 823 F (by omega) (by omega)]; exact v1.2.1
    · dsimp only
      rw [g 824 F (by omega) (by omega)]; exact v1.2.2.1
    · dsimp only
      rw [g 825 F (by omega) (by omega)]; exact v1.2.2.2.1
    · dsimp only
      rw [g 826 F (by omega) (by omega)]; exact v1.2.2.2.2.1
    · dsimp only
      rw [g 828 F (by omega) (by omega)]; exact v1.2.2.2.2.2
    · dsimp only
      rw [g a y (by omega) u3, f1 a y (by omega) u2]
theorem m_octet12 {fu F k x n st sd : Nat} {M : mwM} {L : mwL} (hF : M 821 4 = sI (F + 1)) (hF2 : F < 200) (hk : k < 8) (hx : x < 256) (hn : n < 7) (h823 : M 823 F = sI n) (h825 : M 825 F = 0) (h826 : M 826 F = 8) (h828 : M 828 F = sI 0) (h831 : M 831 n = sI st) (hst : st < 100) (h833 : st = 1 → M 833 n = sI sd ∧ sd < F) : DX12_octet fu (sI F) (sI k) (sI x) M L = some (mset (mset (mset M 821 50 (-1)) 821 0 0) 827 (64 * F + k) (sI x), L) := by
  unfold DX12_octet DX12_noFrame fX12_noFrame_b17
  simp only [mlet, mzz_0]
  have oo : ∀ (X : mwM), DX12_octetsOf fu 0 8 X L = some (sI 8, X, L) := fun X => m_octetsOf (e := 0) (f := 0) (r := 0) (c := 8) (by omega) (by omega) (by omega) (by omega)
  rw [if_neg (show ¬ sI F < 0 by rw [sI_ltl (by omega) (by decide)]; omega), mset_n (show ¬ (821 = 821 ∧ 4 = 50) by omega), hF, if_pos (show sI F < sI (F + 1) by rw [sI_lt (by omega) (by omega)]; omega), mb3_s, if_pos (show (0 : Int32) = 0 from rfl), if_pos (show 0 ≤ sI k by rw [sI_lle (by decide) (by omega)]; omega), mck_s hF2 (by omega), mck_s hF2 (by omega), sI_nn (by omega), mset_n (show ¬ (825 = 821 ∧ F = 50) by omega), h825, mset_n (show ¬ (826 = 821 ∧ F = 50) by omega), h826, oo, mb3_s, if_pos (show sI k < sI 8 by rw [sI_lt (by omega) (by omega)]; exact hk), if_neg (show ¬ sI x < 0 by rw [sI_ltl (by omega) (by decide)]; omega), if_pos (show sI x ≤ 255 by rw [sI_lel (by omega) (by decide)]; omega), mck_s hF2 (by omega), mset_n (show ¬ (828 = 821 ∧ F = 50) by omega), h828, if_pos (show sI 0 = 0 from rfl), mck_s hF2 (by omega), mset_n (show ¬ (823 = 821 ∧ F = 50) by omega), h823, mck_s (by omega) (by omega), sI_nn (by omega), mset_n (show ¬ (831 = 821 ∧ n = 50) by omega), h831, mset_n (show ¬ (833 = 821 ∧ n = 50) by omega)]
  have fin : fX12_octet_b103 fu (sI F) (sI k) (sI x) (mset M 821 50 (-1)) L = some (mset (mset (mset M 821 50 (-1)) 821 0 0) 827 (64 * F + k) (sI x), L) := by
    unfold fX12_octet_b103 fX12_octet_b104 fX12_octet_b126
    simp only [mlet]
    rw [mset_s, if_pos (show (0 : Int32) = 0 from rfl), sI_lml, sI_add, mck_s (by omega) (by omega), sI_nn (by omega)]
  by_cases c : st = 1
  · obtain ⟨q1, q2⟩ := h833 c
    rw [if_pos (show sI st = 1 by rw [c]; rfl), mck_s hF2 (by omega), mck_s (by omega) (by omega), q1, if_neg (show ¬ sI sd = sI F by rw [sI_eq (by omega) (by omega)]; omega)]
    exact fin
  · rw [if_neg (show ¬ sI st = 1 by rw [sI_eql (by omega) (by decide)]; exact c)]
    exact fin
/-! a frame is given to the bus: both sides alike -/
def ocN (oc : Nat → Nat → Nat) (F : Nat) (q : Nat → Nat) : Nat → Nat → Nat := fun g => if g = F then q else oc g
theorem ocN_s {oc : Nat → Nat → Nat} {F : Nat} {q : Nat → Nat} : ocN oc F q F = q := if_pos rfl
theorem ocN_n {oc : Nat → Nat → Nat} {F g : Nat} {q : Nat → Nat} (h : g ≠ F) : ocN oc F q g = oc g := if_neg h
/-- more frames: a node keeps what it has -/
theorem NdR_F {A A' M M' : mwM} {F n0 i0 : Nat} {q : Nat → Nat} {ow id : Nat → Nat} {oc : Nat → Nat → Nat} {dn : Nat → Nat} {m t ecn tcn : Nat} (h : NdR A M F ow id oc dn m t ecn tcn) (hA : ∀ a y, ((25 ≤ a ∧ a ≤ 29) ∧ y = m) ∨ a = 34 + m ∨ a = 47 + 2 * m ∨ a = 48 + 2 * m → A' a y = A a y) (hM : ∀ a y, 831 ≤ a ∧ a ≤ 837 → M' a y = M a y) : NdR A' M' (F + 1) (nst ow F n0) (nst id F i0) (ocN oc F q) (nst dn F 0) m t ecn tcn := by
  rcases h with ⟨h1, h2, h3, h4⟩ | ⟨f, K, f1, f2, f3, f4, f5, f6, f7, f8, f9, f10, f11, f12, f13, f14, f15⟩ | ⟨s, K, k1, k2, k3, k4, k5⟩ | ⟨st, lf, g1, g2, g3, g4, g5, g6, g7, g8, g9⟩
  · exact Or.inl ⟨by rw [hA 25 m (by omega)]; exact h1, by rw [hM 831 m (by omega)]; exact h2, h3, h4⟩
  · have e1 : nst id F i0 f = id f := nst_n (by omega)
    have e2 : ocN oc F q f = oc f := ocN_n (by omega)
    refine Or.inr (Or.inl ⟨f, K, by omega, by rw [nst_n (by omega)]; exact f2, by rw [nst_n (by omega)]; exact f3, by rw [hA 25 m (by omega)]; exact f4, by rw [hM 831 m (by omega)]; exact f5, by rw [hA 27 m (by omega)]; exact f6, by rw [hM 833 m (by omega)]; exact f7, by rw [hA 28 m (by omega)]; exact f8, by rw [hM 836 m (by omega)]; exact f9, f10, by rw [e1, e2]; exact f11, by rw [e1, e2]; exact WvR_fr f12 (fun x y u => hA x y (by omega)), fun i u1 u2 => ?_, f14, f15⟩)
    rw [e1, e2] at u2 ⊢
    rw [hM 837 _ (by omega)]
    exact f13 i u1 u2
  · exact Or.inr (Or.inr (Or.inl ⟨s, K, by rw [hA 25 m (by omega)]; exact k1, by rw [hM 831 m (by omega)]; exact k2, LiR_fr k3 (fun x y u => hA x y (by omega)) (fun x y u => hM x y (by omega)), k4, k5⟩))
  · exact Or.inr (Or.inr (Or.inr ⟨st, lf, g1, g2, by rw [hA 25 m (by omega)]; exact g3, by rw [hM 831 m (by omega)]; exact g4, fun z => by rw [hA 26 m (by omega), hM 832 m (by omega)]; exact g5 z, g6, g7, g8, g9⟩))
theorem NdR_s {A M : mwM} {F : Nat} {ow id : Nat → Nat} {oc : Nat → Nat → Nat} {dn : Nat → Nat} {m t ecn tcn : Nat} (h : NdR A M F ow id oc dn m t ecn tcn) : ∃ st sd, M 831 m = sI st ∧ st < 100 ∧ (st = 1 → M 833 m = sI sd ∧ sd < F) := by
  rcases h with ⟨h1, h2, h3, h4⟩ | ⟨f, K, f1, f2, f3, f4, f5, f6, f7, _⟩ | ⟨s, K, k1, k2, _⟩ | ⟨st, lf, g1, g2, g3, g4, _⟩
  · exact ⟨0, 0, h2, by omega, fun z => by omega⟩
  · exact ⟨1, f, f5, by omega, fun _ => ⟨f7, f1⟩⟩
  · exact ⟨2, 0, k2, by omega, fun z => by omega⟩
  · exact ⟨st, 0, g4, by omega, fun z => by omega⟩
theorem cnt_F {p q : Nat → Bool} {F : Nat} (h : ∀ i, i < F → q i = p i) : cnt q (F + 1) = cnt p F + (if q F = true then 1 else 0) := by
  have e : cnt q (F + 1) = cnt q F + (if q F = true then 1 else 0) := rfl
  rw [e, cnt_congr h]
/-- the relation behind a send -/
theorem Bus_send {A A' M M' : mwM} {N t F n ident : Nat} {q : Nat → Nat} {ow id : Nat → Nat} {oc : Nat → Nat → Nat} {dn ec tc fl : Nat → Nat} {asl : Bool} (hB : BusR A M N t F ow id oc dn ec tc fl asl) (hF2 : F < 200) (hn : n < N) (hid : ident < 2048) (hq : ∀ i, i < 8 → q i < 256)
    (c43 : A' 43 F = sI n) (c44 : A' 44 F = sI ident) (c45 : A' 45 F = sI 0) (c46 : ∀ i, i < 8 → A' 46 (8 * F + i) = sI (q i)) (c9 : A' 20 9 = sI (F + 1)) (c30 : A' 30 n = sI (cnt (fun f => decide (ow f = n ∧ dn f = 0)) F + 1)) (c13 : A' 20 13 = bI false) (cf : ∀ a y, ¬ ((a = 43 ∨ a = 44 ∨ a = 45) ∧ y = F) → ¬ (a = 46 ∧ 8 * F ≤ y ∧ y < 8 * F + 8) → ¬ (a = 20 ∧ (y = 9 ∨ y = 13)) → ¬ (a = 30 ∧ y = n) → A' a y = A a y)
    (m4 : M' 821 4 = sI (F + 1)) (m823 : M' 823 F = sI n) (m824 : M' 824 F = sI ident) (m825 : M' 825 F = 0) (m826 : M' 826 F = 8) (m828 : M' 828 F = sI 0) (m827 : ∀ i, i < 8 → M' 827 (64 * F + i) = sI (q i)) (m50 : M' 821 50 = -1) (mf : ∀ a y, ¬ (a = 821 ∧ (y = 0 ∨ y = 4 ∨ y = 50)) → ¬ ((823 ≤ a ∧ a ≤ 826 ∨ a = 828) ∧ y = F) → ¬ (a = 827 ∧ 64 * F ≤ y ∧ y < 64 * F + 64) → ¬ (a = 732 ∧ y = 91) → a ≠ 929 → a ≠ 930 → M' a y = M a y) :
    BusR A' M' N t (F + 1) (nst ow F n) (nst id F ident) (ocN oc F q) (nst dn F 0) ec tc fl false := by
  obtain ⟨⟨h1, ⟨h2, h2', h2''⟩, ⟨h3, h3', h3''⟩, ⟨h4, h4', h4''⟩, h5, h6, ⟨h7, h7', h7''⟩, ⟨h8, h8'⟩, h9, h10, ⟨tn, h11, h11'⟩, h12⟩, hd, hO, hFl, _, hbit⟩ := hB
  have dc : cnt (fun f => decide (nst dn F 0 f = 1)) (F + 1) = cnt (fun f => decide (dn f = 1)) F := by
    rw [cnt_F (p := fun f => decide (dn f = 1)) (fun i u => by rw [nst_n (by omega)]), nst_s]
    rfl
  refine ⟨⟨h1, ⟨by rw [cf 20 8 (by omega) (by omega) (by omega) (by omega)]; exact h2, by rw [mf 821 1 (by omega) (by omega) (by omega) (by omega) (by omega) (by omega)]; exact h2', by rw [mf 821 2 (by omega) (by omega) (by omega) (by omega) (by omega) (by omega)]; exact h2''⟩, ⟨c9, by omega, fun f u => ?_⟩, ⟨m4, by omega, fun f u => ?_⟩, Or.inl m50, CA_fr h6 (fun a y u => mf a y (by omega) (by omega) (by omega) (by omega) (by omega) (by omega)), ⟨by rw [cf 20 10 (by omega) (by omega) (by omega) (by omega)]; exact h7, by rw [mf 821 29 (by omega) (by omega) (by omega) (by omega) (by omega) (by omega)]; exact h7', fun i u => ?_⟩, ⟨by rw [cf 20 11 (by omega) (by omega) (by omega) (by omega), dc]; exact h8, by rw [mf 821 11 (by omega) (by omega) (by omega) (by omega) (by omega) (by omega), dc]; exact h8'⟩, fun m u => ?_, by rw [mf 821 22 (by omega) (by omega) (by omega) (by omega) (by omega) (by omega)]; exact h10, ⟨tn, fun k u => by rw [mf 839 k (by omega) (by omega) (by omega) (by omega) (by omega) (by omega)]; exact h11 k u, h11'⟩, h12⟩, fun m u => NdR_F (hd m u) (fun a y w => cf a y (by omega) (by omega) (by omega) (by omega)) (fun a y w => mf a y (by omega) (by omega) (by omega) (by omega) (by omega) (by omega)), fun k u => ?_, fun t' ht' => ?_, ⟨c13, fun z => by cases z⟩, fun i u => ?_⟩
  · by_cases z : f = F
    · rw [z, nst_s, nst_s, nst_s, ocN_s]
      exact ⟨c43, by omega, c44, hid, c45, by omega, fun i w => ⟨c46 i w, hq i w⟩⟩
    · obtain ⟨a1, a2, a3, a4, a5, a6, a7⟩ := h3'' f (by omega)
      rw [nst_n z, nst_n z, nst_n z, ocN_n z]
      exact ⟨by rw [cf 43 f (by omega) (by omega) (by omega) (by omega)]; exact a1, a2, by rw [cf 44 f (by omega) (by omega) (by omega) (by omega)]; exact a3, a4, by rw [cf 45 f (by omega) (by omega) (by omega) (by omega)]; exact a5, a6, fun i w => by rw [cf 46 _ (by omega) (by omega) (by omega) (by omega)]; exact a7 i w⟩
  · by_cases z : f = F
    · rw [z, nst_s, nst_s, nst_s, ocN_s]
      exact ⟨m823, by omega, hid, m828, by omega, m824, m825, m826, fun i w => ⟨m827 i w, hq i w⟩⟩
    · obtain ⟨a1, a2, a3, a4, a5, b1, b2, b3, b4⟩ := h4'' f (by omega)
      rw [nst_n z, nst_n z, nst_n z, ocN_n z]
      exact ⟨by rw [mf 823 f (by omega) (by omega) (by omega) (by omega) (by omega) (by omega)]; exact a1, a2, a3, by rw [mf 828 f (by omega) (by omega) (by omega) (by omega) (by omega) (by omega)]; exact a4, a5, by rw [mf 824 f (by omega) (by omega) (by omega) (by omega) (by omega) (by omega)]; exact b1, by rw [mf 825 f (by omega) (by omega) (by omega) (by omega) (by omega) (by omega)]; exact b2, by rw [mf 826 f (by omega) (by omega) (by omega) (by omega) (by omega) (by omega)]; exact b3, fun i w => by rw [mf 827 _ (by omega) (by omega) (by omega) (by omega) (by omega) (by omega)]; exact b4 i w⟩
  · obtain ⟨k, m, tt, q1, q2, q3, q4, q5, q6, q7⟩ := h7'' i u
    exact ⟨k, m, tt, q1, q2, q3, by rw [cf 23 i (by omega) (by omega) (by omega) (by omega)]; exact q4, by rw [mf 845 i (by omega) (by omega) (by omega) (by omega) (by omega) (by omega)]; exact q5, by rw [mf 846 i (by omega) (by omega) (by omega) (by omega) (by omega) (by omega)]; exact q6, by rw [mf 847 i (by omega) (by omega) (by omega) (by omega) (by omega) (by omega)]; exact q7⟩
  · obtain ⟨q1, q2, q3, q4⟩ := h9 m u
    refine ⟨?_, by rw [cf 31 m (by omega) (by omega) (by omega) (by omega)]; exact q2, by rw [mf 834 m (by omega) (by omega) (by omega) (by omega) (by omega) (by omega)]; exact q3, by rw [mf 835 m (by omega) (by omega) (by omega) (by omega) (by omega) (by omega)]; exact q4⟩
    rw [cnt_F (p := fun f => decide (ow f = m ∧ dn f = 0)) (fun i w => by rw [nst_n (by omega), nst_n (by omega)]), nst_s, nst_s]
    by_cases z : m = n
    · rw [z, decide_eq_true (show n = n ∧ 0 = 0 from ⟨rfl, rfl⟩), if_pos rfl]
      exact c30
    · rw [decide_eq_false (show ¬ (n = m ∧ 0 = 0) from fun w => z w.1.symm), if_neg (by decide), Nat.add_zero, cf 30 m (by omega) (by omega) (by omega) (by omega)]
      exact q1
  · obtain ⟨o, ho⟩ := hO k u
    exact ⟨o, OcR_f ho (fun y => cf _ y (by omega) (by omega) (by omega) (by omega))⟩
  · obtain ⟨q1, q2, q3⟩ := hFl t' ht'
    exact ⟨by rw [cf 22 t' (by omega) (by omega) (by omega) (by omega)]; exact q1, q2, fun k hk => by rw [mf 838 _ (by omega) (by omega) (by omega) (by omega) (by omega) (by omega)]; exact q3 k hk⟩
  · rw [cf 21 i (by omega) (by omega) (by omega) (by omega), mf 822 i (by omega) (by omega) (by omega) (by omega) (by omega) (by omega)]
    exact hbit i u
theorem st_send {fu N t F n ident row n3 fr ob : Nat} {q : Nat → Nat} {ow id : Nat → Nat} {oc : Nat → Nat → Nat} {dn ec tc fl : Nat → Nat} {asl : Bool} {A M : mwM} {Lc Lm : mwL} (hfu : 100 ≤ fu) (hB : BusR A M N t F ow id oc dn ec tc fl asl) (hn : n < N) (hid : ident < 2048) (hq : ∀ i, i < 8 → q i < 256 ∧ A row i = sI (q i) ∧ M 926 i = sI (q i)) (hn3 : 8 ≤ n3) (hn4 : n3 < 1000) (hrow : row ≠ 20 ∧ row ≠ 43 ∧ row ≠ 44 ∧ row ≠ 45 ∧ row ≠ 46) (hfr : fr < 100000) (hob : M 732 91 = sI ob) (hob2 : ob < 6001) : ∃ (r : Bool) (A' M' : mwM), DX0_send fu (sI n) (sI ident) row n3 A Lc = some (bI r, A', Lc) ∧ DX19_put fu (sI n) (sI ident) (sI fr) M Lm = some (bI r, M', Lm) ∧ (r = decide (F < 200)) ∧
    (r = false → A' = A ∧ M' = mset (mset M 821 0 3) 939 0 (M 939 0 + 1)) ∧
    (r = true → BusR A' M' N t (F + 1) (nst ow F n) (nst id F ident) (ocN oc F q) (nst dn F 0) ec tc fl false ∧ (∀ a y, ¬ (a = 20 ∧ (y = 9 ∨ y = 13)) → ¬ (43 ≤ a ∧ a ≤ 46) → a ≠ 30 → A' a y = A a y) ∧ (∀ a y, ¬ (821 ≤ a ∧ a ≤ 828) → ¬ (0 < fr ∧ ((a = 732 ∧ y = 91) ∨ a = 929 ∨ a = 930)) → M' a y = M a y) ∧ (0 < fr → M' 732 91 = sI (ob + 1) ∧ M' 929 ob = sI fr ∧ M' 930 ob = sI ident ∧ ∀ a y, a = 929 ∨ a = 930 → y ≠ ob → M' a y = M a y)) := by
  have hB' := hB
  obtain ⟨⟨h1, ⟨h2, h2', h2''⟩, ⟨h3, h3', h3''⟩, ⟨h4, h4', h4''⟩, h5, h6, _, _, h9, _⟩, hd, _⟩ := hB'
  unfold DX19_put DX12_thrown
  by_cases c : F < 200
  · obtain ⟨⟨r1, A1, L1⟩, e1, a1, a2, a3, a4, a5, a6, a7, a8, a9, a10⟩ := c_send0 (fu := fu) (ident := ident) (L := Lc) (q := q) (by omega) (show n < 7 by omega) h3 c (h9 n (by omega)).1 hn3 hn4 hrow (fun i u => (hq i u).2.1)
    dsimp only at a1 a2 a3 a4 a5 a6 a7 a8 a9 a10
    rw [a1, a2] at e1
    obtain ⟨⟨r2, M1, L2⟩, e2, b1, b2, b3, b4, b5, b6, b7, b8, b9, b10⟩ := m_send12 (fu := fu) (ident := ident) (L := Lm) (by omega) h2' h1.2.1 hn hid h4 c
    dsimp only at b1 b2 b3 b4 b5 b6 b7 b8 b9 b10
    rw [b1, b2] at e2
    rw [e2, mb3_s, mb3_s, b3, if_pos (show (0 : Int32) ≤ 0 by decide)]
    obtain ⟨st, sd, s1, s2, s3⟩ := NdR_s (hd n hn)
    -- eight octets
    have loop : ∃ M', fX19_put_h39 fu (sI n) (sI ident) (sI fr) fu (sI F, 0, M1, Lm) = some (1, M', Lm) ∧ (∀ i, i < 8 → M' 827 (64 * F + i) = sI (q i)) ∧ M' 821 50 = -1 ∧ (∀ a y, ¬ (a = 821 ∧ (y = 0 ∨ y = 50)) → ¬ (a = 827 ∧ 64 * F ≤ y ∧ y < 64 * F + 64) → ¬ (0 < fr ∧ ((a = 732 ∧ y = 91) ∨ a = 929 ∨ a = 930)) → M' a y = M1 a y) ∧ (0 < fr → M' 732 91 = sI (ob + 1) ∧ M' 929 ob = sI fr ∧ M' 930 ob = sI ident ∧ ∀ a y, a = 929 ∨ a = 930 → y ≠ ob → M' a y = M1 a y) := by
      have key : wq (fX19_put_h39 fu (sI n) (sI ident) (sI fr) fu (sI F, 0, M1, Lm)) (fun z => z.1 = 1 ∧ z.2.2 = Lm ∧ (∀ i, i < 8 → z.2.1 827 (64 * F + i) = sI (q i)) ∧ z.2.1 821 50 = -1 ∧ (∀ a y, ¬ (a = 821 ∧ (y = 0 ∨ y = 50)) → ¬ (a = 827 ∧ 64 * F ≤ y ∧ y < 64 * F + 64) → ¬ (0 < fr ∧ ((a = 732 ∧ y = 91) ∨ a = 929 ∨ a = 930)) → z.2.1 a y = M1 a y) ∧ (0 < fr → z.2.1 732 91 = sI (ob + 1) ∧ z.2.1 929 ob = sI fr ∧ z.2.1 930 ob = sI ident ∧ ∀ a y, a = 929 ∨ a = 930 → y ≠ ob → z.2.1 a y = M1 a y)) := by
        refine wq_for (body := fun r z => fX19_put_i39 fu (sI n) (sI ident) (sI fr) r z.1 z.2.1 z.2.2.1 z.2.2.2) (fun i (x : mwM) => (sI F, sI i, x, Lm)) (fun i x => (∀ j, j < i → x 827 (64 * F + j) = sI (q j)) ∧ (1 ≤ i → x 821 50 = -1) ∧ ∀ a y, ¬ (a = 821 ∧ (y = 0 ∨ y = 50)) → ¬ (a = 827 ∧ 64 * F ≤ y ∧ y < 64 * F + 64) → x a y = M1 a y) 8 ?_ ?_ 8 0 M1 fu (by omega) (by omega) ⟨fun j u => by omega, fun u => by omega, fun _ _ _ _ => rfl⟩
        · intro i x r hi ⟨x1, x2, x3⟩ ih
          show wq (fX19_put_i39 fu (sI n) (sI ident) (sI fr) r (sI F) (sI i) x Lm) _
          unfold fX19_put_i39
          have p926 : x 926 i = sI (q i) := by rw [x3 926 i (by omega) (by omega), b10 926 i (by omega) (by omega) (by omega)]; exact (hq i hi).2.2
          rw [if_neg (by rw [sI_lle (by decide) (by omega)]; omega), mck_s hi (by omega), sI_nn (by omega), p926, m_octet12 (st := st) (sd := sd) (n := n) (by rw [x3 821 4 (by omega) (by omega)]; exact b4) c hi (hq i hi).1 (by omega) (by rw [x3 823 F (by omega) (by omega)]; exact b5) (by rw [x3 825 F (by omega) (by omega)]; exact b7) (by rw [x3 826 F (by omega) (by omega)]; exact b8) (by rw [x3 828 F (by omega) (by omega)]; exact b9) (by rw [x3 831 n (by omega) (by omega), b10 831 n (by omega) (by omega) (by omega)]; exact s1) s2 (fun z => by rw [x3 833 n (by omega) (by omega), b10 833 n (by omega) (by omega) (by omega)]; exact s3 z), mb2_s]
          simp only [mlet]
          rw [sI_1]
          refine ih _ ⟨fun j u => ?_, fun _ => by rw [mset_n (by omega), mset_n (by omega), mset_s], fun a y u1 u2 => by rw [mset_n (by omega), mset_n (by omega), mset_n (by omega)]; exact x3 a y u1 u2⟩
          by_cases z : j = i
          · rw [z, mset_s]
          · rw [mset_n (by omega), mset_n (by omega), mset_n (by omega)]
            exact x1 j (by omega)
        · intro x r ⟨x1, x2, x3⟩
          show wq (fX19_put_i39 fu (sI n) (sI ident) (sI fr) r (sI F) (sI 8) x Lm) _
          unfold fX19_put_i39 fX19_put_b104
          have p91 : x 732 91 = sI ob := by rw [x3 732 91 (by omega) (by omega), b10 732 91 (by omega) (by omega) (by omega)]; exact hob
          rw [if_pos (by decide)]
          by_cases d : fr = 0
          · rw [if_pos (show sI fr ≤ 0 by rw [d]; decide)]
            exact wq_some ⟨rfl, rfl, x1, x2 (by omega), fun a y u1 u2 _ => x3 a y u1 u2, fun z => by omega⟩
          · rw [if_neg (show ¬ sI fr ≤ 0 by rw [sI_lel (by omega) (by decide)]; omega)]
            simp only [mlet]
            simp (disch := omega) only [p91, mck_s, sI_nn, mset_n, sI_1]
            refine wq_some ⟨rfl, rfl, fun i u => ?_, ?_, fun a y u1 u2 u3 => ?_, fun _ => ⟨?_, ?_, ?_, fun a y u1 u2 => ?_⟩⟩
            · dsimp only
              simp (disch := omega) only [mset_n]
              exact x1 i u
            · dsimp only
              simp (disch := omega) only [mset_n]
              exact x2 (by omega)
            · dsimp only
              simp (disch := omega) only [mset_n]
              exact x3 a y u1 u2
            · dsimp only
              rw [mset_s]
            · dsimp only
              simp (disch := omega) only [mset_n, mset_s]
            · dsimp only
              simp (disch := omega) only [mset_n, mset_s]
            · dsimp only
              simp (disch := omega) only [mset_n]
              exact x3 a y (by omega) (by omega)
      obtain ⟨⟨r3, M3, L3⟩, e3, k1, k2, k3, k4, k5, k6⟩ := key
      dsimp only at k1 k2 k3 k4 k5 k6
      rw [k1, k2] at e3
      exact ⟨M3, e3, k3, k4, k5, k6⟩
    obtain ⟨M3, e3, k3, k4, k5, k6⟩ := loop
    rw [e3]
    refine ⟨true, A1, M3, e1, rfl, (decide_eq_true c).symm, (fun z => by cases z), fun _ => ⟨?_, fun a y u1 u2 u3 => a10 a y (by omega) (by omega) (by omega) (by omega), fun a y u1 u2 => by rw [k5 a y (by omega) (by omega) u2, b10 a y (by omega) (by omega) (by omega)], fun z => ⟨(k6 z).1, (k6 z).2.1, (k6 z).2.2.1, fun a y u1 u2 => by rw [(k6 z).2.2.2 a y u1 u2, b10 a y (by omega) (by omega) (by omega)]⟩⟩⟩
    exact Bus_send hB c hn hid (fun i u => (hq i u).1) a3 a4 a5 a6 a7 a8 a9 a10 (by rw [k5 821 4 (by omega) (by omega) (by omega)]; exact b4) (by rw [k5 823 F (by omega) (by omega) (by omega)]; exact b5) (by rw [k5 824 F (by omega) (by omega) (by omega)]; exact b6) (by rw [k5 825 F (by omega) (by omega) (by omega)]; exact b7) (by rw [k5 826 F (by omega) (by omega) (by omega)]; exact b8) (by rw [k5 828 F (by omega) (by omega) (by omega)]; exact b9) k3 k4 (fun a y u1 u2 u3 u4 u5 u6 => by rw [k5 a y (by omega) u3 (by omega), b10 a y (by omega) u2 u3])
  · have f200 : F = 200 := by omega
    unfold DX0_send
    rw [h3, if_neg (by rw [sI_ltl (by omega) (by decide)]; exact c), m_send_b49 h2' h1.2.1 hn hid, h4, if_pos (show sI F = 200 by rw [f200]; rfl)]
    unfold fX12_send_b88
    simp only [mlet]
    rw [mset_s, if_neg (show ¬ (3 : Int32) ≤ 0 by decide), mb3_s, mb3_s, mset_s, if_neg (show ¬ (3 : Int32) ≤ 0 by decide), tz0, mset_n (show ¬ (939 = 821 ∧ 0 = 0) by omega)]
    exact ⟨false, A, _, rfl, rfl, (decide_eq_false c).symm, fun _ => ⟨rfl, rfl⟩, (fun z => by cases z)⟩
/-! the bus begins anew -/
theorem c_begin0 {fu N : Nat} {A : mwM} {L : mwL} (hfu : 150000 ≤ fu) (hN : N ≤ 7) : wq (DX0_begin fu (sI N) A L) (fun z => z.2 = L ∧ z.1 20 8 = sI N ∧ z.1 20 9 = sI 0 ∧ z.1 20 10 = sI 0 ∧ z.1 20 11 = sI 0 ∧ z.1 20 12 = sI 0 ∧ z.1 20 13 = bI true ∧ (∀ n, n < 7 → z.1 25 n = sI 0 ∧ z.1 30 n = sI 0 ∧ z.1 31 n = sI 0) ∧ (∀ t, t < 20000 → z.1 22 t = sI 0) ∧ ∀ a y, ¬ (a = 20 ∧ 8 ≤ y ∧ y ≤ 13) → ¬ ((a = 25 ∨ a = 30 ∨ a = 31) ∧ y < 7) → ¬ (a = 22 ∧ y < 20000) → z.1 a y = A a y) := by
  unfold DX0_begin
  rw [if_neg (show ¬ 7 < sI N by rw [sI_llt (by decide) (by omega)]; omega)]
  simp only [mlet]
  generalize hA1 : mset (mset (mset (mset (mset (mset A 20 8 (sI N)) 20 9 0) 20 10 0) 20 11 0) 20 12 0) 20 13 1 = A1
  have f1 : ∀ a y, ¬ (a = 20 ∧ 8 ≤ y ∧ y ≤ 13) → A1 a y = A a y := fun a y u => by
    rw [← hA1]
    simp (disch := omega) only [mset_n]
  have v1 : A1 20 8 = sI N ∧ A1 20 9 = sI 0 ∧ A1 20 10 = sI 0 ∧ A1 20 11 = sI 0 ∧ A1 20 12 = sI 0 ∧ A1 20 13 = bI true := by
    rw [← hA1]
    simp (disch := omega) only [mset_n, mset_s]
    exact ⟨(by first | trivial | rfl), (by first | trivial | rfl), (by first | trivial | rfl), (by first | trivial | rfl), (by first | trivial | rfl), (by first | trivial | rfl)⟩
  refine wq_for (body := fun r z => fX0_begin_i37 fu (sI N) r z.1 z.2.1 z.2.2) (fun i (x : mwM) => (sI i, x, L)) (fun i x => (∀ j, j < i → x 25 j = sI 0 ∧ x 30 j = sI 0 ∧ x 31 j = sI 0) ∧ ∀ a y, ¬ ((a = 25 ∨ a = 30 ∨ a = 31) ∧ y < 7) → x a y = A1 a y) 7 ?_ ?_ 7 0 A1 fu (by omega) (by omega) ⟨fun j u => by omega, fun _ _ _ => rfl⟩
  · intro i x r hi ⟨x1, x2⟩ ih
    show wq (fX0_begin_i37 fu (sI N) r (sI i) x L) _
    unfold fX0_begin_i37
    rw [if_neg (by rw [sI_lle (by decide) (by omega)]; omega)]
    simp only [mlet]
    rw [mck_s hi (by omega), mck_s hi (by omega), mck_s hi (by omega), sI_nn (by omega), sI_1]
    refine ih _ ⟨fun j u => ?_, fun a y u => by rw [mset_n (by omega), mset_n (by omega), mset_n (by omega)]; exact x2 a y u⟩
    by_cases z : j = i
    · rw [z]
      simp (disch := omega) only [mset_n, mset_s]
      exact ⟨(by first | trivial | rfl), (by first | trivial | rfl), (by first | trivial | rfl)⟩
    · simp (disch := omega) only [mset_n]
      exact x1 j (by omega)
  · intro x r ⟨x1, x2⟩
    show wq (fX0_begin_i37 fu (sI N) r (sI 7) x L) _
    unfold fX0_begin_i37
    rw [if_pos (by decide)]
    refine wq_for (body := fun r z => fX0_begin_i79 fu (sI N) r z.1 z.2.1 z.2.2) (fun i (y : mwM) => (sI i, y, L)) (fun i y => (∀ t, t < i → y 22 t = sI 0) ∧ ∀ a b, ¬ (a = 22 ∧ b < 20000) → y a b = x a b) 20000 ?_ ?_ 20000 0 x fu (by omega) (by omega) ⟨fun j u => by omega, fun _ _ _ => rfl⟩
    · intro i y r hi ⟨y1, y2⟩ ih
      show wq (fX0_begin_i79 fu (sI N) r (sI i) y L) _
      unfold fX0_begin_i79
      rw [if_neg (by rw [sI_lle (by decide) (by omega)]; omega), mck_s hi (by omega), sI_nn (by omega), show vp_nar .byte 0 = sI 0 by decide]
      simp only [mlet]
      rw [sI_1]
      refine ih _ ⟨fun t u => ?_, fun a b u => by rw [mset_n (by omega)]; exact y2 a b u⟩
      by_cases z : t = i
      · rw [z, mset_s]
      · rw [mset_n (by omega)]
        exact y1 t (by omega)
    · intro y r ⟨y1, y2⟩
      show wq (fX0_begin_i79 fu (sI N) r (sI 20000) y L) _
      unfold fX0_begin_i79
      rw [if_pos (by decide)]
      have g : ∀ a b, ¬ ((a = 25 ∨ a = 30 ∨ a = 31) ∧ b < 7) → ¬ (a = 22 ∧ b < 20000) → y a b = A1 a b := fun a b u1 u2 => by rw [y2 a b u2, x2 a b u1]
      refine wq_some ⟨rfl, ?_, ?_, ?_, ?_, ?_, ?_, fun n u => ?_, y1, fun a b u1 u2 u3 => ?_⟩
      · dsimp only
        rw [g 20 8 (by omega) (by omega)]; exact v1.1
      · dsimp only
        rw [g 20 9 (by omega) (by omega)]; exact v1.2.1
      · dsimp only
        rw [g 20 10 (by omega) (by omega)]; exact v1.2.2.1
      · dsimp only
        rw [g 20 11 (by omega) (by omega)]; exact v1.2.2.2.1
      · dsimp only
        rw [g 20 12 (by omega) (by omega)]; exact v1.2.2.2.2.1
      · dsimp only
        rw [g 20 13 (by omega) (by omega)]; exact v1.2.2.2.2.2
      · dsimp only
        rw [y2 25 n (by omega), y2 30 n (by omega), y2 31 n (by omega)]
        exact x1 n u
      · dsimp only
        rw [g a b u2 u3, f1 a b u1]
theorem m_nodes {fu N : Nat} {M : mwM} {L : mwL} (hfu : 150000 ≤ fu) (hN : N ≤ 7) : wq (DX12_nodes fu (sI N) M L) (fun z => z.2 = L ∧ z.1 821 0 = 0 ∧ z.1 821 1 = sI N ∧ z.1 821 2 = sI 0 ∧ z.1 821 4 = sI 0 ∧ z.1 821 11 = sI 0 ∧ z.1 821 22 = sI 0 ∧ z.1 821 29 = sI 0 ∧ z.1 821 48 = -1 ∧ z.1 821 50 = -1 ∧ (∀ n, n < 32 → z.1 831 n = sI 0 ∧ z.1 834 n = 0 ∧ z.1 835 n = 0) ∧ (∀ i, i < 140000 → z.1 838 i = sI 0) ∧ ∀ a y, ¬ (821 ≤ a ∧ a ≤ 838) → z.1 a y = M a y) := by
  unfold DX12_nodes fX12_nodes_b30
  simp only [mlet]
  rw [if_pos (show sI N ≤ 32 by rw [sI_lel (by omega) (by decide)]; omega), if_pos (show 0 ≤ sI N by rw [sI_lle (by decide) (by omega)]; omega), mset_s, if_pos (show (0 : Int32) ≤ 0 by decide)]
  generalize hM1 : mset (mset (mset (mset (mset (mset (mset (mset (mset M 821 50 (-1)) 821 48 (-1)) 821 0 0) 821 1 (sI N)) 821 2 0) 821 4 0) 821 11 0) 821 22 0) 821 29 0 = M1
  have f1 : ∀ a y, a ≠ 821 → M1 a y = M a y := fun a y u => by
    rw [← hM1]
    simp (disch := omega) only [mset_n]
  have v1 : M1 821 0 = 0 ∧ M1 821 1 = sI N ∧ M1 821 2 = sI 0 ∧ M1 821 4 = sI 0 ∧ M1 821 11 = sI 0 ∧ M1 821 22 = sI 0 ∧ M1 821 29 = sI 0 ∧ M1 821 48 = -1 ∧ M1 821 50 = -1 := by
    rw [← hM1]
    simp (disch := omega) only [mset_n, mset_s]
    exact ⟨(by first | trivial | rfl), (by first | trivial | rfl), (by first | trivial | rfl), (by first | trivial | rfl), (by first | trivial | rfl), (by first | trivial | rfl), (by first | trivial | rfl), (by first | trivial | rfl), (by first | trivial | rfl)⟩
  refine wq_for (body := fun r z => fX12_nodes_i73 fu (sI N) r z.1 z.2.1 z.2.2) (fun i (x : mwM) => (sI i, x, L)) (fun i x => (∀ j, j < i → x 831 j = sI 0 ∧ x 834 j = 0 ∧ x 835 j = 0) ∧ ∀ a y, a ≠ 831 → a ≠ 834 → a ≠ 835 → x a y = M1 a y) 32 ?_ ?_ 32 0 M1 fu (by omega) (by omega) ⟨fun j u => by omega, fun _ _ _ _ _ => rfl⟩
  · intro i x r hi ⟨x1, x2⟩ ih
    show wq (fX12_nodes_i73 fu (sI N) r (sI i) x L) _
    unfold fX12_nodes_i73
    rw [if_neg (by rw [sI_lle (by decide) (by omega)]; omega)]
    simp only [mlet]
    rw [mck_s hi (by omega), mck_s hi (by omega), mck_s hi (by omega), sI_nn (by omega), sI_1]
    refine ih _ ⟨fun j u => ?_, fun a y u1 u2 u3 => by rw [mset_n (by omega), mset_n (by omega), mset_n (by omega)]; exact x2 a y u1 u2 u3⟩
    by_cases z : j = i
    · rw [z]
      simp (disch := omega) only [mset_n, mset_s]
      exact ⟨(by first | trivial | rfl), (by first | trivial | rfl), (by first | trivial | rfl)⟩
    · simp (disch := omega) only [mset_n]
      exact x1 j (by omega)
  · intro x r ⟨x1, x2⟩
    show wq (fX12_nodes_i73 fu (sI N) r (sI 32) x L) _
    unfold fX12_nodes_i73
    rw [if_pos (by decide)]
    refine wq_for (body := fun r z => fX12_nodes_i108 fu (sI N) r z.1 z.2.1 z.2.2) (fun i (y : mwM) => (sI i, y, L)) (fun i y => (∀ t, t < i → y 838 t = sI 0) ∧ ∀ a b, a ≠ 838 → y a b = x a b) 140000 ?_ ?_ 140000 0 x fu (by omega) (by omega) ⟨fun j u => by omega, fun _ _ _ => rfl⟩
    · intro i y r hi ⟨y1, y2⟩ ih
      show wq (fX12_nodes_i108 fu (sI N) r (sI i) y L) _
      unfold fX12_nodes_i108
      rw [if_neg (by rw [sI_lle (by decide) (by omega)]; omega), mck_s hi (by omega), sI_nn (by omega), show vp_nar .boolean 0 = sI 0 by decide]
      simp only [mlet]
      rw [sI_1]
      refine ih _ ⟨fun t u => ?_, fun a b u => by rw [mset_n (by omega)]; exact y2 a b u⟩
      by_cases z : t = i
      · rw [z, mset_s]
      · rw [mset_n (by omega)]
        exact y1 t (by omega)
    · intro y r ⟨y1, y2⟩
      show wq (fX12_nodes_i108 fu (sI N) r (sI 140000) y L) _
      unfold fX12_nodes_i108
      rw [if_pos (by decide)]
      have g : ∀ b, y 821 b = M1 821 b := fun b => by rw [y2 821 b (by omega), x2 821 b (by omega) (by omega) (by omega)]
      refine wq_some ⟨rfl, ?_, ?_, ?_, ?_, ?_, ?_, ?_, ?_, ?_, fun n u => ?_, y1, fun a b u => ?_⟩
      · dsimp only
        rw [g]; exact v1.1
      · dsimp only
        rw [g]; exact v1.2.1
      · dsimp only
        rw [g]; exact v1.2.2.1
      · dsimp only
        rw [g]; exact v1.2.2.2.1
      · dsimp only
        rw [g]; exact v1.2.2.2.2.1
      · dsimp only
        rw [g]; exact v1.2.2.2.2.2.1
      · dsimp only
        rw [g]; exact v1.2.2.2.2.2.2.1
      · dsimp only
        rw [g]; exact v1.2.2.2.2.2.2.2.1
      · dsimp only
        rw [g]; exact v1.2.2.2.2.2.2.2.2
      · dsimp only
        rw [y2 831 n (by omega), y2 834 n (by omega), y2 835 n (by omega)]
        exact x1 n u
      · dsimp only
        rw [y2 a b (by omega), x2 a b (by omega) (by omega) (by omega), f1 a b (by omega)]
theorem st_begin {fu N : Nat} {ow id : Nat → Nat} {oc : Nat → Nat → Nat} {dn : Nat → Nat} {A M : mwM} {Lc Lm : mwL} (hfu : 150000 ≤ fu) (h1 : 1 ≤ N) (hN : N ≤ 7) (hO : OcA A) : ∃ A' M', DX0_begin fu (sI N) A Lc = some (A', Lc) ∧ DX12_nodes fu (sI N) M Lm = some (M', Lm) ∧ BusR A' M' N 0 0 ow id oc dn z0 z0 z0 true ∧ A' 20 12 = sI 0 ∧ (∀ a y, ¬ (20 ≤ a ∧ a ≤ 60) → A' a y = A a y) ∧ ∀ a y, ¬ (821 ≤ a ∧ a ≤ 853) → M' a y = M a y := by
  obtain ⟨⟨A1, La⟩, e1, a1, a2, a3, a4, a5, a6, a7, a8, a9, a10⟩ := c_begin0 (fu := fu) (A := A) (L := Lc) hfu hN
  dsimp only at a1 a2 a3 a4 a5 a6 a7 a8 a9 a10
  rw [a1] at e1
  obtain ⟨⟨M1, Lb⟩, e2, b1, b2, b3, b4, b5, b6, b7, b8, b9, b10, b11, b12, b13⟩ := m_nodes (fu := fu) (M := M) (L := Lm) hfu hN
  dsimp only at b1 b2 b3 b4 b5 b6 b7 b8 b9 b10 b11 b12 b13
  rw [b1] at e2
  refine ⟨A1, M1, e1, e2, ⟨⟨⟨h1, hN, by omega⟩, ⟨a2, b3, b4⟩, ⟨a3, by omega, fun f u => by omega⟩, ⟨b5, by omega, fun f u => by omega⟩, Or.inl b10, Or.inl b9, ⟨a4, b8, fun i u => absurd u (by show ¬ i < 0; omega)⟩, ⟨a5, b6⟩, fun n u => ⟨(a8 n u).2.1, (a8 n u).2.2, (b11 n (by omega)).2.1, (b11 n (by omega)).2.2⟩, b7, ⟨z0, fun k u => absurd u (by show ¬ k < 0; omega), fun n u => rfl⟩, fun n u => ⟨by show 8 * 0 ≤ 0 + 8; omega, by show 40 * 0 ≤ 0; omega⟩⟩, fun n u => Or.inl ⟨(a8 n (by omega)).1, (b11 n (by omega)).1, by show 8 * 0 ≤ 0; omega, by show 40 * 0 ≤ 0; omega⟩, fun n u => ?_, fun t u => ⟨a9 t u, by show 0 < 128; omega, fun n w => ?_⟩, ⟨a7, fun _ n u => ⟨(a8 n (by omega)).1, (a8 n (by omega)).2.1⟩⟩, fun i u => by omega⟩, a6, fun a y u => a10 a y (by omega) (by omega) (by omega), fun a y u => b13 a y (by omega)⟩
  · obtain ⟨o, ho⟩ := hO n u
    exact ⟨o, OcR_f ho (fun y => a10 _ y (by omega) (by omega) (by omega))⟩
  · rw [b12 _ (by omega)]
    show sI 0 = sI (0 / 2 ^ n % 2)
    rw [Nat.zero_div]
/-! what is told of the bus -/
theorem NdR_25 {A M : mwM} {F : Nat} {ow id : Nat → Nat} {oc : Nat → Nat → Nat} {dn : Nat → Nat} {m t ecn tcn : Nat} (h : NdR A M F ow id oc dn m t ecn tcn) : A 25 m = M 831 m := by
  rcases h with ⟨h1, h2, h3, h4⟩ | ⟨f, K, f1, f2, f3, f4, f5, _⟩ | ⟨s, K, k1, k2, _⟩ | ⟨st, lf, g1, g2, g3, g4, _⟩
  · rw [h1, h2]
  · rw [f4, f5]
  · rw [k1, k2]
  · rw [g3, g4]
theorem m_state12 {fu n N : Nat} {M : mwM} {L : mwL} (h1 : M 821 1 = sI N) (hN : N ≤ 7) (hn : n < N) : DX12_state fu (sI n) M L = some (M 831 n, mset M 821 0 0, L) := by
  unfold DX12_state fX12_state_b14 fX12_state_b34
  rw [m_noNode h1 hN hn, mb3_s, if_pos (show (0 : Int32) = 0 from rfl)]
  simp only [mlet]
  rw [mset_s, if_pos (show (0 : Int32) ≤ 0 by decide), mck_s (by omega) (by omega), sI_nn (by omega), mset_n (by omega)]
theorem m_waiting12 {fu n N F : Nat} {ow id dn : Nat → Nat} {oc : Nat → Nat → Nat} {M : mwM} {L : mwL} (hfu : 300 ≤ fu) (h1 : M 821 1 = sI N) (hN : N ≤ 7) (hn : n < N) (hM : FrM M F ow id oc dn) : DX12_waiting fu (sI n) M L = some (sI (cnt (fun f => decide (ow f = n ∧ dn f = 0)) F), mset M 821 0 0, L) := by
  obtain ⟨h4, hF, hA⟩ := hM
  unfold DX12_waiting fX12_waiting_b14
  rw [m_noNode h1 hN hn, mb3_s, if_pos (show (0 : Int32) = 0 from rfl)]
  simp only [mlet]
  have key : ∀ (m f g : Nat), f + m = F → m < g → fX12_waiting_h21 fu (sI n) g (sI (cnt (fun f => decide (ow f = n ∧ dn f = 0)) f), sI f, mset M 821 0 0, L) = some (sI (cnt (fun f => decide (ow f = n ∧ dn f = 0)) F), mset M 821 0 0, L) := by
    intro m
    induction m with
    | zero =>
      intro f g hf hg
      obtain ⟨g', rfl⟩ : ∃ g', g = g' + 1 := ⟨g - 1, by omega⟩
      have : f = F := by omega
      subst this
      unfold fX12_waiting_h21
      rw [mloop_S]
      show fX12_waiting_i21 fu (sI n) _ (sI (cnt (fun f => decide (ow f = n ∧ dn f = 0)) f)) (sI f) (mset M 821 0 0) L = _
      unfold fX12_waiting_i21 fX12_waiting_b69
      rw [mset_n (by omega), h4, if_pos (by rw [sI_le (by omega) (by omega)]; omega)]
    | succ m ih =>
      intro f g hf hg
      obtain ⟨g', rfl⟩ : ∃ g', g = g' + 1 := ⟨g - 1, by omega⟩
      obtain ⟨a1, a2, a3, a4, a5, _⟩ := hA f (by omega)
      unfold fX12_waiting_h21
      rw [mloop_S]
      show fX12_waiting_i21 fu (sI n) (fX12_waiting_h21 fu (sI n) g') (sI (cnt (fun f => decide (ow f = n ∧ dn f = 0)) f)) (sI f) (mset M 821 0 0) L = _
      unfold fX12_waiting_i21 fX12_waiting_b61 fX12_waiting_b62
      rw [mset_n (show ¬ (821 = 821 ∧ 4 = 0) by omega), h4, if_neg (by rw [sI_le (by omega) (by omega)]; omega), mset_s, if_pos (show (0 : Int32) = 0 from rfl), mck_s (by omega) (by omega), mck_s (by omega) (by omega), sI_nn (by omega), mset_n (by omega), a1, mset_n (by omega), a4]
      simp only [mlet]
      rw [sI_1, sI_1]
      have nx := ih (f + 1) g' (by omega) (by omega)
      have cs : cnt (fun f => decide (ow f = n ∧ dn f = 0)) (f + 1) = cnt (fun f => decide (ow f = n ∧ dn f = 0)) f + (if decide (ow f = n ∧ dn f = 0) = true then 1 else 0) := rfl
      rw [cs] at nx
      by_cases c1 : ow f = n
      · rw [if_pos (show sI (ow f) = sI n by rw [c1])]
        by_cases c2 : dn f = 0
        · rw [if_pos (show sI (dn f) = 0 by rw [c2]; rfl)]
          rw [decide_eq_true ⟨c1, c2⟩, if_pos rfl] at nx
          exact nx
        · rw [if_neg (show ¬ sI (dn f) = 0 by rw [sI_eql (by omega) (by decide)]; exact c2)]
          rw [decide_eq_false (fun z => c2 z.2), if_neg (by decide), Nat.add_zero] at nx
          exact nx
      · rw [if_neg (show ¬ sI (ow f) = sI n by rw [sI_eq (by omega) (by omega)]; exact c1)]
        rw [decide_eq_false (fun z => c1 z.1), if_neg (by decide), Nat.add_zero] at nx
        exact nx
  exact key F 0 fu (by omega) (by omega)
theorem m_takenC {fu n N T : Nat} {tc : Nat → Nat} {M : mwM} {L : mwL} (hfu : 5000 ≤ fu) (h1 : M 821 1 = sI N) (hN : N ≤ 7) (hn : n < N) (h22 : M 821 22 = sI T) (hT : T ≤ 3600) (hR : TnR M T tc) : DX12_taken fu (sI n) (-1) 0 M L = some (sI (tc n), mset M 821 0 0, L) := by
  obtain ⟨tn, r1, r2⟩ := hR
  unfold DX12_taken fX12_taken_b14
  rw [m_noNode h1 hN hn, mb3_s, if_pos (show (0 : Int32) = 0 from rfl)]
  simp only [mlet]
  rw [mset_s, if_pos (show (0 : Int32) ≤ 0 by decide)]
  have key : ∀ (m k g : Nat), k + m = T → m < g → fX12_taken_h41 fu (sI n) (-1) 0 g (sI (cnt (fun k => decide (tn k = n)) k), sI k, mset M 821 0 0, L) = some (sI (tc n), mset M 821 0 0, L) := by
    intro m
    induction m with
    | zero =>
      intro k g hk hg
      obtain ⟨g', rfl⟩ : ∃ g', g = g' + 1 := ⟨g - 1, by omega⟩
      have : k = T := by omega
      subst this
      unfold fX12_taken_h41
      rw [mloop_S]
      show fX12_taken_i41 fu (sI n) (-1) 0 _ (sI (cnt (fun k => decide (tn k = n)) k)) (sI k) (mset M 821 0 0) L = _
      unfold fX12_taken_i41
      rw [mset_n (by omega), h22, if_pos (by rw [sI_le (by omega) (by omega)]; omega), r2 n (by omega)]
    | succ m ih =>
      intro k g hk hg
      obtain ⟨g', rfl⟩ : ∃ g', g = g' + 1 := ⟨g - 1, by omega⟩
      obtain ⟨a1, a2⟩ := r1 k (by omega)
      unfold fX12_taken_h41
      rw [mloop_S]
      show fX12_taken_i41 fu (sI n) (-1) 0 (fX12_taken_h41 fu (sI n) (-1) 0 g') (sI (cnt (fun k => decide (tn k = n)) k)) (sI k) (mset M 821 0 0) L = _
      unfold fX12_taken_i41 fX12_taken_b70
      rw [mset_n (by omega), h22, if_neg (by rw [sI_le (by omega) (by omega)]; omega), mck_s (by omega) (by omega), sI_nn (by omega), mset_n (by omega), a1]
      simp only [mlet]
      rw [sI_1, sI_1]
      have nx := ih (k + 1) g' (by omega) (by omega)
      have cs : cnt (fun k => decide (tn k = n)) (k + 1) = cnt (fun k => decide (tn k = n)) k + (if decide (tn k = n) = true then 1 else 0) := rfl
      rw [cs] at nx
      by_cases c1 : tn k = n
      · rw [if_pos (show sI (tn k) = sI n by rw [c1])]
        rw [decide_eq_true c1, if_pos rfl] at nx
        exact nx
      · rw [if_neg (show ¬ sI (tn k) = sI n by rw [sI_eq (by omega) (by omega)]; exact c1)]
        rw [decide_eq_false c1, if_neg (by decide), Nat.add_zero] at nx
        exact nx
  have e := key T 0 fu (by omega) (by omega)
  first
    | exact e
    | (rw [if_pos rfl, if_pos rfl]; exact e)
    | (simp only [ite_true]; exact e)
theorem m_bit12 {fu i t : Nat} {M : mwM} {L : mwL} (h2 : M 821 2 = sI t) (ht : t ≤ 20000) (hi : i < t) : DX12_bit fu (sI i) M L = some (M 822 i, mset M 821 0 0, L) := by
  unfold DX12_bit fX12_bit_b18 fX12_bit_b38
  rw [if_neg (show ¬ sI i < 0 by rw [sI_ltl (by omega) (by decide)]; omega), h2, if_pos (show sI i < sI t by rw [sI_lt (by omega) (by omega)]; exact hi)]
  simp only [mlet]
  rw [mset_s, if_pos (show (0 : Int32) ≤ 0 by decide), mck_s (by omega) (by omega), sI_nn (by omega), mset_n (by omega)]
def erV (k n t w : Nat) : Nat := if w = 0 then k else if w = 1 then n else t
/-- an error, as both sides tell it -/
theorem st_error {fu E i w : Nat} {A M : mwM} {Lc Lm : mwL} (hE : ErR A M E) (h29 : M 821 29 = sI E) (hE2 : E ≤ 17507) (hi : i < E) (hw : w < 3) : ∃ v, DX0_tellError fu (sI i) (sI w) A Lc = some (v, A, Lc) ∧ DX12_error fu (sI i) (sI w) M Lm = some (v, mset (mset M 821 0 0) 821 0 0, Lm) := by
  obtain ⟨k, n, t, k1, k2, k3, k4, k5, k6, k7⟩ := hE i hi
  refine ⟨sI (erV k n t w), ?_, ?_⟩
  · unfold DX0_tellError fX0_tellError_b36 erV
    rw [mck_s (by omega) (by omega), sI_nn (by omega), k4]
    simp only [mlet]
    have e0 : sI (k + 8 * n + 64 * t) &&& 7 = sI k := by
      have := sI_and (a := k + 8 * n + 64 * t) (m := 3)
      rw [show (k + 8 * n + 64 * t) % 2 ^ 3 = k by omega] at this
      exact this
    have e1 : (sI (k + 8 * n + 64 * t) >>> ((3 : Int32) &&& 31)) &&& 7 = sI n := by
      have s1 : sI (k + 8 * n + 64 * t) >>> ((3 : Int32) &&& 31) = sI ((k + 8 * n + 64 * t) / 2 ^ 3) := sI_shr (s := 3) (by omega) (by omega)
      rw [s1]
      have := sI_and (a := (k + 8 * n + 64 * t) / 2 ^ 3) (m := 3)
      rw [show (k + 8 * n + 64 * t) / 2 ^ 3 % 2 ^ 3 = n by omega] at this
      exact this
    have e2 : sI (k + 8 * n + 64 * t) >>> ((6 : Int32) &&& 31) = sI t := by
      have s1 : sI (k + 8 * n + 64 * t) >>> ((6 : Int32) &&& 31) = sI ((k + 8 * n + 64 * t) / 2 ^ 6) := sI_shr (s := 6) (by omega) (by omega)
      rw [s1, show (k + 8 * n + 64 * t) / 2 ^ 6 = t by omega]
    rw [e0, e1, e2]
    rcases (show w = 0 ∨ w = 1 ∨ w = 2 by omega) with rfl | rfl | rfl
    · rw [if_pos (show sI 0 = 0 from rfl), if_pos rfl]
    · rw [if_neg (show ¬ sI 1 = 0 by decide), if_pos (show sI 1 = 1 from rfl), if_neg (by decide), if_pos rfl]
    · rw [if_neg (show ¬ sI 2 = 0 by decide), if_neg (show ¬ sI 2 = 1 by decide), if_neg (by decide), if_neg (by decide)]
  · unfold DX12_error
    simp only [mlet]
    have b19 : fX12_error_b19 fu (sI i) (sI w) (mset M 821 0 0) Lm = some (sI (erV k n t w), mset (mset M 821 0 0) 821 0 0, Lm) := by
      unfold fX12_error_b19 fX12_error_b50 fX12_error_b95 erV
      rw [if_neg (show ¬ sI i < 0 by rw [sI_ltl (by omega) (by decide)]; omega), mset_n (show ¬ (821 = 821 ∧ 29 = 0) by omega), h29, if_pos (show sI i < sI E by rw [sI_lt (by omega) (by omega)]; exact hi), if_neg (show ¬ sI w < 0 by rw [sI_ltl (by omega) (by decide)]; omega), if_pos (show sI w ≤ 2 by rw [sI_lel (by omega) (by decide)]; omega)]
      simp only [mlet]
      rw [mset_s, if_pos (show (0 : Int32) ≤ 0 by decide), mck_s (by omega) (by omega), mck_s (by omega) (by omega), mck_s (by omega) (by omega), sI_nn (by omega)]
      simp (disch := omega) only [mset_n]
      rw [k5, k6, k7]
      rcases (show w = 0 ∨ w = 1 ∨ w = 2 by omega) with rfl | rfl | rfl
      · rw [if_pos (show sI 0 = 0 from rfl), if_pos rfl]
      · rw [if_neg (show ¬ sI 1 = 0 by decide), if_pos (show sI 1 = 1 from rfl), if_neg (by decide), if_pos rfl]
      · rw [if_neg (show ¬ sI 2 = 0 by decide), if_neg (show ¬ sI 2 = 1 by decide), if_neg (by decide), if_neg (by decide)]
    rw [if_neg (fun z => sI_m1n (show i < 2000000000 by omega) z.symm)]
    exact b19
/-- a flip -/
theorem fl_or : ∀ n, n < 7 → ∀ x, x < 128 → vp_nar .byte ((sI x ||| (1 <<< (sI n &&& 31))).toInt8.toInt32) = sI (x ||| 2 ^ n) ∧ x ||| 2 ^ n < 128 ∧ ∀ m, m < 7 → (x ||| 2 ^ n) / 2 ^ m % 2 = (if m = n then 1 else x / 2 ^ m % 2) := by decide +kernel
theorem st_flip {fu N t F n at' : Nat} {ow id : Nat → Nat} {oc : Nat → Nat → Nat} {dn ec tc fl : Nat → Nat} {asl : Bool} {A M : mwM} {Lm : mwL} (hB : BusR A M N t F ow id oc dn ec tc fl asl) (hn : n < N) (h1 : t ≤ at') (h2 : at' < 20000) : ∃ M', DX12_flip fu (sI n) (sI at') M Lm = some (M', Lm) ∧ BusR (mset A 22 at' (vp_nar .byte (((A 22 at') ||| (1 <<< (sI n &&& 31))).toInt8.toInt32))) M' N t F ow id oc dn ec tc (nst fl at' (fl at' ||| 2 ^ n)) asl ∧ ∀ a y, ¬ (a = 821 ∧ y = 0) → a ≠ 838 → M' a y = M a y := by
  obtain ⟨⟨g1, ⟨g2, g3, g4⟩, g5, g6, g7, g8, ⟨g9, g9', g9''⟩, ⟨g10, g10'⟩, g11, g12, ⟨tn, g13, g13'⟩, g14⟩, hd, hO, hF, hs, hbit⟩ := hB
  obtain ⟨f1, f2, f3⟩ := hF at' h2
  obtain ⟨o1, o2, o3⟩ := fl_or n (by omega) (fl at') f2
  unfold DX12_flip fX12_flip_b33 fX12_flip_b56
  rw [m_noNode g3 g1.2.1 hn, mb3_s, if_pos (show (0 : Int32) = 0 from rfl), g4, if_neg (show ¬ sI at' < sI t by rw [sI_lt (by omega) (by omega)]; omega), if_pos (show sI at' ≤ 19999 by rw [sI_lel (by omega) (by decide)]; omega)]
  simp only [mlet]
  rw [mset_s, if_pos (show (0 : Int32) = 0 from rfl), sI_lml, sI_add, mck_s (by omega) (by omega), sI_nn (by omega), f1, o1]
  have cA : ∀ a y, ¬ (a = 22 ∧ y = at') → mset A 22 at' (sI (fl at' ||| 2 ^ n)) a y = A a y := fun a y u => mset_n u
  have cM : ∀ a y, ¬ (a = 821 ∧ y = 0) → ¬ (a = 838 ∧ y = 20000 * n + at') → mset (mset M 821 0 0) 838 (20000 * n + at') (vp_nar .boolean 1) a y = M a y := fun a y u1 u2 => by rw [mset_n u2, mset_n u1]
  refine ⟨_, rfl, ⟨⟨g1, ⟨by rw [cA 20 8 (by omega)]; exact g2, by rw [cM 821 1 (by omega) (by omega)]; exact g3, by rw [cM 821 2 (by omega) (by omega)]; exact g4⟩, FrC_fr g5 (fun a y u => cA a y (by omega)), FrM_fr g6 (fun a y u => cM a y (by omega) (by omega)), WC_fr g7 (fun a y u => cM a y (by omega) (by omega)), CA_fr g8 (fun a y u => cM a y (by omega) (by omega)), ⟨by rw [cA 20 10 (by omega)]; exact g9, by rw [cM 821 29 (by omega) (by omega)]; exact g9', fun i u => ?_⟩, ⟨by rw [cA 20 11 (by omega)]; exact g10, by rw [cM 821 11 (by omega) (by omega)]; exact g10'⟩, fun m u => ?_, by rw [cM 821 22 (by omega) (by omega)]; exact g12, ⟨tn, fun k u => by rw [cM 839 k (by omega) (by omega)]; exact g13 k u, g13'⟩, g14⟩, fun m u => ?_, fun k u => ?_, fun t' ht' => ?_, ⟨by rw [cA 20 13 (by omega)]; exact hs.1, fun z m u => by rw [cA 25 m (by omega), cA 30 m (by omega)]; exact hs.2 z m u⟩, fun i u => by rw [cA 21 i (by omega), cM 822 i (by omega) (by omega)]; exact hbit i u⟩, fun a y u1 u2 => cM a y u1 (by omega)⟩
  · obtain ⟨k, m, tt, q1, q2, q3, q4, q5, q6, q7⟩ := g9'' i u
    exact ⟨k, m, tt, q1, q2, q3, by rw [cA 23 i (by omega)]; exact q4, by rw [cM 845 i (by omega) (by omega)]; exact q5, by rw [cM 846 i (by omega) (by omega)]; exact q6, by rw [cM 847 i (by omega) (by omega)]; exact q7⟩
  · obtain ⟨q1, q2, q3, q4⟩ := g11 m u
    exact ⟨by rw [cA 30 m (by omega)]; exact q1, by rw [cA 31 m (by omega)]; exact q2, by rw [cM 834 m (by omega) (by omega)]; exact q3, by rw [cM 835 m (by omega) (by omega)]; exact q4⟩
  · have h := hd m u
    rcases h with ⟨h1, h2, h3, h4⟩ | ⟨f, K, f1, f2, f3, f4, f5, f6, f7, f8, f9, f10, f11, f12, f13, f14, f15⟩ | ⟨s, K, k1, k2, k3, k4, k5⟩ | ⟨st, lf, w1, w2, w3, w4, w5, w6, w7, w8, w9⟩
    · exact Or.inl ⟨by rw [cA 25 m (by omega)]; exact h1, by rw [cM 831 m (by omega) (by omega)]; exact h2, h3, h4⟩
    · exact Or.inr (Or.inl ⟨f, K, f1, f2, f3, by rw [cA 25 m (by omega)]; exact f4, by rw [cM 831 m (by omega) (by omega)]; exact f5, by rw [cA 27 m (by omega)]; exact f6, by rw [cM 833 m (by omega) (by omega)]; exact f7, by rw [cA 28 m (by omega)]; exact f8, by rw [cM 836 m (by omega) (by omega)]; exact f9, f10, f11, WvR_fr f12 (fun x y u => cA x y (by omega)), fun i u1 u2 => by rw [cM 837 _ (by omega) (by omega)]; exact f13 i u1 u2, f14, f15⟩)
    · exact Or.inr (Or.inr (Or.inl ⟨s, K, by rw [cA 25 m (by omega)]; exact k1, by rw [cM 831 m (by omega) (by omega)]; exact k2, LiR_fr k3 (fun x y u => cA x y (by omega)) (fun x y u => cM x y (by omega) (by omega)), k4, k5⟩))
    · exact Or.inr (Or.inr (Or.inr ⟨st, lf, w1, w2, by rw [cA 25 m (by omega)]; exact w3, by rw [cM 831 m (by omega) (by omega)]; exact w4, fun z => by rw [cA 26 m (by omega), cM 832 m (by omega) (by omega)]; exact w5 z, w6, w7, w8, w9⟩))
  · obtain ⟨o, ho⟩ := hO k u
    exact ⟨o, OcR_f ho (fun y => cA _ y (by omega))⟩
  · obtain ⟨q1, q2, q3⟩ := hF t' ht'
    by_cases z : t' = at'
    · rw [z, nst_s]
      refine ⟨mset_s, o2, fun m u => ?_⟩
      rw [o3 m u]
      by_cases y : m = n
      · rw [y, mset_s, if_pos rfl]
        rfl
      · rw [cM 838 _ (by omega) (by omega), if_neg y]
        exact f3 m u
    · rw [nst_n z]
      exact ⟨by rw [cA 22 t' (by omega)]; exact q1, q2, fun m u => by rw [cM 838 _ (by omega) (by omega)]; exact q3 m u⟩
/-! THE PACKING: the choices, in numbers alone -/
def upd1 (ch : Nat → Nat) (i f : Nat) : Nat → Nat := fun x => if x = i then f else ch x
theorem upd1_s {ch : Nat → Nat} {i f : Nat} : upd1 ch i f i = f := by unfold upd1; rw [if_pos rfl]
theorem upd1_n {ch : Nat → Nat} {i f x : Nat} (h : x ≠ i) : upd1 ch i f x = ch x := by unfold upd1; rw [if_neg h]
/-- what frame f holds of the first i -/
def fil (ch sz : Nat → Nat) : Nat → Nat → Nat
  | 0, _ => 0
  | i + 1, f => fil ch sz i f + if ch i = f then sz i else 0
/-- how many frames the first i opened -/
def opn (ch : Nat → Nat) : Nat → Nat
  | 0 => 0
  | i + 1 => if opn ch i < ch i + 1 then ch i + 1 else opn ch i
theorem fil_c {ch ch' sz : Nat → Nat} {i : Nat} (h : ∀ j, j < i → ch j = ch' j) (f : Nat) : fil ch sz i f = fil ch' sz i f := by
  induction i with
  | zero => rfl
  | succ i ih =>
    show fil ch sz i f + _ = fil ch' sz i f + _
    rw [ih (fun j hj => h j (by omega)), h i (by omega)]
theorem opn_c {ch ch' : Nat → Nat} {i : Nat} (h : ∀ j, j < i → ch j = ch' j) : opn ch i = opn ch' i := by
  induction i with
  | zero => rfl
  | succ i ih =>
    show (if opn ch i < ch i + 1 then ch i + 1 else opn ch i) = (if opn ch' i < ch' i + 1 then ch' i + 1 else opn ch' i)
    rw [ih (fun j hj => h j (by omega)), h i (by omega)]
theorem fil_u {ch sz : Nat → Nat} {i f : Nat} (x : Nat) : fil (upd1 ch i f) sz i x = fil ch sz i x := fil_c (fun j hj => upd1_n (by omega)) x
theorem opn_u {ch : Nat → Nat} {i f : Nat} : opn (upd1 ch i f) i = opn ch i := opn_c (fun j hj => upd1_n (by omega))
theorem fil_u1 {ch sz : Nat → Nat} {i f x : Nat} : fil (upd1 ch i f) sz (i + 1) x = fil ch sz i x + if f = x then sz i else 0 := by
  show fil (upd1 ch i f) sz i x + (if upd1 ch i f i = x then sz i else 0) = _
  rw [fil_u, upd1_s]
theorem opn_u1 {ch : Nat → Nat} {i f : Nat} : opn (upd1 ch i f) (i + 1) = if opn ch i < f + 1 then f + 1 else opn ch i := by
  show (if opn (upd1 ch i f) i < upd1 ch i f i + 1 then upd1 ch i f i + 1 else opn (upd1 ch i f) i) = _
  rw [opn_u, upd1_s]
theorem opn_lt {ch : Nat → Nat} {i j : Nat} (h : j < i) : ch j < opn ch i := by
  induction i with
  | zero => omega
  | succ i ih =>
    show ch j < (if opn ch i < ch i + 1 then ch i + 1 else opn ch i)
    by_cases e : j = i
    · subst e; split <;> omega
    · have := ih (by omega)
      split <;> omega
theorem opn_mono {ch : Nat → Nat} {i : Nat} : opn ch i ≤ opn ch (i + 1) := by
  show opn ch i ≤ (if opn ch i < ch i + 1 then ch i + 1 else opn ch i)
  split <;> omega
theorem fil_0 {ch sz : Nat → Nat} {i f : Nat} (h : opn ch i ≤ f) : fil ch sz i f = 0 := by
  induction i with
  | zero => rfl
  | succ i ih =>
    have h1 := opn_lt (ch := ch) (show i < i + 1 by omega)
    have h2 := opn_mono (ch := ch) (i := i)
    show fil ch sz i f + _ = 0
    rw [ih (by omega), if_neg (by omega)]
/-- a row of choices in which no frame is passed over -/
def tgt (ch : Nat → Nat) (i : Nat) : Prop := ∀ j, j < i → ch j ≤ opn ch j
theorem tgt_le {ch : Nat → Nat} {i : Nat} (h : tgt ch i) : opn ch i ≤ i := by
  induction i with
  | zero => exact Nat.le_refl _
  | succ i ih =>
    have h1 := ih (fun j hj => h j (by omega))
    have h2 := h i (by omega)
    show (if opn ch i < ch i + 1 then ch i + 1 else opn ch i) ≤ i + 1
    split <;> omega
theorem tgt_u {ch : Nat → Nat} {i f : Nat} (h : tgt ch i) (hf : f ≤ opn ch i) : tgt (upd1 ch i f) (i + 1) := by
  intro j hj
  by_cases e : j = i
  · subst e; rw [upd1_s, opn_u]; exact hf
  · rw [upd1_n e, opn_c (ch' := ch) (fun x hx => upd1_n (by omega))]
    exact h j (by omega)
/-- the first of some tries that answers -/
def tr {α : Type} (g : Nat → Option α) : Nat → Nat → Option α
  | 0, _ => none
  | n + 1, f => match g f with
    | some x => some x
    | none => tr g n (f + 1)
/-- the first way to put the groups from i on -/
def fnd (sz : Nat → Nat) (room most : Nat) : Nat → Nat → (Nat → Nat) → Option (Nat → Nat)
  | 0, _, ch => some ch
  | r + 1, i, ch => tr (fun f => if fil ch sz i f + sz i ≤ room then fnd sz room most r (i + 1) (upd1 ch i f) else none) (if opn ch i < most then opn ch i + 1 else most) 0
theorem tr_some {α : Type} {g : Nat → Option α} : ∀ (n f : Nat) (x : α), tr g n f = some x → ∃ y, f ≤ y ∧ y < f + n ∧ g y = some x := by
  intro n
  induction n with
  | zero => intro f x h; cases h
  | succ n ih =>
    intro f x h
    unfold tr at h
    cases hg : g f with
    | some z =>
      rw [hg] at h
      exact ⟨f, by omega, by omega, by rw [hg]; exact h⟩
    | none =>
      rw [hg] at h
      obtain ⟨y, h1, h2, h3⟩ := ih (f + 1) x h
      exact ⟨y, by omega, by omega, h3⟩
theorem tr_none {α : Type} {g : Nat → Option α} : ∀ (n f : Nat), tr g n f = none → ∀ y, f ≤ y → y < f + n → g y = none := by
  intro n
  induction n with
  | zero => intro f h y h1 h2; omega
  | succ n ih =>
    intro f h y h1 h2
    unfold tr at h
    cases hg : g f with
    | some z => rw [hg] at h; cases h
    | none =>
      rw [hg] at h
      by_cases e : y = f
      · subst e; exact hg
      · exact ih (f + 1) h y (by omega) (by omega)
/-- what a way that was found is -/
def way (sz : Nat → Nat) (room most : Nat) (i m : Nat) (ch : Nat → Nat) : Prop := ∀ j, i ≤ j → j < m → ch j ≤ opn ch j ∧ ch j < most ∧ fil ch sz j (ch j) + sz j ≤ room
theorem fnd_some {sz : Nat → Nat} {room most : Nat} : ∀ (r i : Nat) (ch ch' : Nat → Nat), fnd sz room most r i ch = some ch' → (∀ j, j < i → ch' j = ch j) ∧ way sz room most i (i + r) ch' := by
  intro r
  induction r with
  | zero =>
    intro i ch ch' h
    cases h
    exact ⟨fun _ _ => rfl, fun j h1 h2 => by omega⟩
  | succ r ih =>
    intro i ch ch' h
    unfold fnd at h
    obtain ⟨f, h1, h2, h3⟩ := tr_some _ _ _ h
    by_cases c : fil ch sz i f + sz i ≤ room
    · rw [if_pos c] at h3
      obtain ⟨k1, k2⟩ := ih _ _ _ h3
      have e : ∀ j, j < i → ch' j = ch j := fun j hj => by rw [k1 j (by omega), upd1_n (by omega)]
      refine ⟨e, fun j j1 j2 => ?_⟩
      by_cases ej : j = i
      · subst ej
        have e2 : ch' j = f := by rw [k1 j (by omega), upd1_s]
        rw [e2, opn_c e, fil_c e]
        split at h2 <;> exact ⟨by omega, by omega, c⟩
      · exact k2 j (by omega) (by omega)
    · rw [if_neg c] at h3; cases h3
/-- a way that is there is found -/
theorem fnd_none {sz : Nat → Nat} {room most : Nat} : ∀ (r i : Nat) (ch wy : Nat → Nat), fnd sz room most r i ch = none → (∀ j, j < i → wy j = ch j) → way sz room most i (i + r) wy → False := by
  intro r
  induction r with
  | zero => intro i ch wy h; cases h
  | succ r ih =>
    intro i ch wy h hw hv
    unfold fnd at h
    obtain ⟨v1, v2, v3⟩ := hv i (by omega) (by omega)
    rw [opn_c hw] at v1
    rw [fil_c hw] at v3
    have h2 := tr_none _ _ h (wy i) (by omega) (by split <;> omega)
    rw [if_pos v3] at h2
    refine ih _ _ wy h2 (fun j hj => ?_) (fun j j1 j2 => hv j (by omega) (by omega))
    by_cases e : j = i
    · subst e; rw [upd1_s]
    · rw [upd1_n e]; exact hw j (by omega)
theorem way_tgt {sz : Nat → Nat} {room most m : Nat} {ch : Nat → Nat} (h : way sz room most 0 m ch) : tgt ch m := fun j hj => (h j (by omega) hj).1
theorem way_opn {sz : Nat → Nat} {room most m : Nat} {ch : Nat → Nat} (h : way sz room most 0 m ch) : opn ch m ≤ most := by
  have : ∀ i, i ≤ m → opn ch i ≤ most := by
    intro i
    induction i with
    | zero => intro _; exact Nat.zero_le _
    | succ i ih =>
      intro hi
      have h1 := (h i (by omega) (by omega)).2.1
      have h2 := ih (by omega)
      show (if opn ch i < ch i + 1 then ch i + 1 else opn ch i) ≤ most
      split <;> omega
  exact this m (Nat.le_refl _)
/-- where fewer frames don't do, all are opened -/
theorem way_all {sz : Nat → Nat} {room most m : Nat} {ch : Nat → Nat} (hm : 0 < m) (h : way sz room most 0 m ch) (hn : ∀ x, 1 ≤ x → x < most → fnd sz room x m 0 (fun _ => 0) = none) : opn ch m = most := by
  have h1 := way_opn h
  apply Nat.le_antisymm h1
  apply Nat.le_of_not_lt
  intro hc
  have h0 := opn_lt (ch := ch) hm
  refine fnd_none m 0 (fun _ => 0) ch (hn (opn ch m) (by omega) hc) (fun j hj => by omega) ?_
  intro j j1 j2
  obtain ⟨v1, v2, v3⟩ := h j j1 (by omega)
  exact ⟨v1, opn_lt (by omega), v3⟩
/-- each group in a frame of its own is a way -/
theorem way_own {sz : Nat → Nat} {room m : Nat} (h : ∀ j, j < m → sz j ≤ room) : way sz room m 0 m (fun x => x) := by
  have e : ∀ i, opn (fun x => x) i = i := by
    intro i
    induction i with
    | zero => rfl
    | succ i ih =>
      show (if opn (fun x => x) i < i + 1 then i + 1 else opn (fun x => x) i) = i + 1
      rw [ih, if_pos (by omega)]
  intro j _ hj
  refine ⟨by rw [e]; exact Nat.le_refl _, hj, ?_⟩
  have e2 : fil (fun x => x) sz j j = 0 := fil_0 (by rw [e]; exact Nat.le_refl _)
  show fil (fun x => x) sz j j + sz j ≤ room
  rw [e2]
  have := h j hj
  omega
/-! the class: the ways to pack a few groups -/
abbrev GpC (A : mwM) (m : Nat) (g sz : Nat → Nat) : Prop := A 61 13 = sI m ∧ m ≤ 40 ∧ ∀ j, j < m → A 92 j = sI (g j) ∧ g j < 40 ∧ 1 ≤ sz j ∧ sz j ≤ 8 ∧ ∃ bt, A 63 (g j) = sI bt ∧ bt ≤ 64 ∧ sz j = (bt + 7) / 8
abbrev FtC (A A' : mwM) : Prop := ∀ a y, a ≠ 93 → a ≠ 94 → A' a y = A a y
theorem c_octetsOf {fu s bt : Nat} {A : mwM} {L : mwL} (hs : s < 40) (h : A 63 s = sI bt) (hb : bt ≤ 64) : DX6_octetsOf fu (sI s) A L = some (sI ((bt + 7) / 8), A, L) := by
  unfold DX6_octetsOf
  rw [mck_s hs (by omega), sI_nn (by omega), h, sI_adl]
  have e : sI (bt + 7) / 8 = sI ((bt + 7) / 8) := sI_div (b := 8) (by omega) (by omega)
  rw [e]
theorem GpC_f {A A' : mwM} {m : Nat} {g sz : Nat → Nat} (h : GpC A m g sz) (hf : FtC A A') : GpC A' m g sz := by
  obtain ⟨h1, h2, h3⟩ := h
  refine ⟨by rw [hf _ _ (by omega) (by omega)]; exact h1, h2, fun j hj => ?_⟩
  obtain ⟨a, b, c, d, bt, e1, e2, e3⟩ := h3 j hj
  exact ⟨by rw [hf _ _ (by omega) (by omega)]; exact a, b, c, d, bt, by rw [hf _ _ (by omega) (by omega)]; exact e1, e2, e3⟩
theorem fil_b {ch sz : Nat → Nat} {i : Nat} (h : ∀ j, j < i → sz j ≤ 8) (f : Nat) : fil ch sz i f ≤ 8 * i := by
  induction i with
  | zero => exact Nat.le_refl _
  | succ i ih =>
    have h1 := ih (fun j hj => h j (by omega))
    have h2 := h i (by omega)
    show fil ch sz i f + (if ch i = f then sz i else 0) ≤ 8 * (i + 1)
    split <;> omega
theorem c_fits8 {fu m most room : Nat} {g sz : Nat → Nat} {L : mwL} (hfu : 50 ≤ fu) (hmost : most ≤ m) (hroom : room ≤ 8) : ∀ (r i dp : Nat) (ch : Nat → Nat) (A : mwM), i + r = m → r ≤ dp → tgt ch i → GpC A m g sz → (∀ f, f < m → A 94 f = sI (fil ch sz i f)) → (∀ j, j < i → A 93 j = sI (ch j)) →
    ∃ A', FtC A A' ∧ ((∃ ch', fnd sz room most r i ch = some ch' ∧ fX6_fits_b8 fu (DX6_fits fu dp) (sI i) (sI (opn ch i)) (sI most) (sI room) A L = some (1, A', L) ∧ ∀ j, j < m → A' 93 j = sI (ch' j)) ∨ (fnd sz room most r i ch = none ∧ fX6_fits_b8 fu (DX6_fits fu dp) (sI i) (sI (opn ch i)) (sI most) (sI room) A L = some (0, A', L) ∧ (∀ f, f < m → A' 94 f = A 94 f) ∧ ∀ j, j < i → A' 93 j = A 93 j)) := by
  intro r
  induction r with
  | zero =>
    intro i dp ch A hi hd ht hG h94 h93
    obtain ⟨g1, g2, g3⟩ := hG
    have : i = m := by omega
    subst this
    refine ⟨A, fun _ _ _ _ => rfl, Or.inl ⟨ch, rfl, ?_, fun j hj => h93 j hj⟩⟩
    unfold fX6_fits_b8
    rw [g1, if_neg (by rw [sI_lt (by omega) (by omega)]; omega)]
  | succ r ih =>
    intro i dp ch A hi hd ht hG h94 h93
    obtain ⟨g1, g2, g3⟩ := hG
    obtain ⟨b1, b2, b3, b4, bt, b5, b6, b7⟩ := g3 i (by omega)
    have hop := tgt_le ht
    have hs8 : ∀ j, j < i → sz j ≤ 8 := fun j hj => (g3 j (by omega)).2.2.2.1
    obtain ⟨dp', rfl⟩ : ∃ x, dp = x + 1 := ⟨dp - 1, by omega⟩
    unfold fX6_fits_b8
    rw [g1, if_pos (by rw [sI_lt (by omega) (by omega)]; omega), mck_s (by omega) (by omega), sI_nn (by omega), b1, c_octetsOf b2 b5 b6, mb3_s, ← b7]
    -- the tries, one behind another
    have key : ∀ (n f fq : Nat) (A1 : mwM), f + n = (if opn ch i < most then opn ch i + 1 else most) → n < fq → FtC A A1 → (∀ x, x < m → A1 94 x = A 94 x) → (∀ j, j < i → A1 93 j = A 93 j) →
        ∃ A', FtC A A' ∧ ((∃ ch', tr (fun f => if fil ch sz i f + sz i ≤ room then fnd sz room most r (i + 1) (upd1 ch i f) else none) n f = some ch' ∧ fX6_fits_h33 fu (DX6_fits fu (dp' + 1)) (sI i) (sI (opn ch i)) (sI most) (sI room) fq (sI (sz i), sI f, A1, L) = some (1, A', L) ∧ ∀ j, j < m → A' 93 j = sI (ch' j)) ∨ (tr (fun f => if fil ch sz i f + sz i ≤ room then fnd sz room most r (i + 1) (upd1 ch i f) else none) n f = none ∧ fX6_fits_h33 fu (DX6_fits fu (dp' + 1)) (sI i) (sI (opn ch i)) (sI most) (sI room) fq (sI (sz i), sI f, A1, L) = some (0, A', L) ∧ (∀ x, x < m → A' 94 x = A 94 x) ∧ ∀ j, j < i → A' 93 j = A 93 j)) := by
      intro n
      induction n with
      | zero =>
        intro f fq A1 hf hq hF h4 h3
        obtain ⟨fq', rfl⟩ : ∃ x, fq = x + 1 := ⟨fq - 1, by omega⟩
        refine ⟨A1, hF, Or.inr ⟨rfl, ?_, h4, h3⟩⟩
        unfold fX6_fits_h33
        rw [mloop_S]
        show fX6_fits_i33 fu (DX6_fits fu (dp' + 1)) (sI i) (sI (opn ch i)) (sI most) (sI room) _ (sI (sz i)) (sI f) A1 L = _
        unfold fX6_fits_i33 fX6_fits_b121
        by_cases c : opn ch i < most
        · rw [if_pos c] at hf
          rw [if_pos (by rw [sI_lt (by omega) (by omega)]; omega)]
        · rw [if_neg c] at hf
          by_cases c2 : opn ch i < f
          · rw [if_pos (by rw [sI_lt (by omega) (by omega)]; omega)]
          · rw [if_neg (by rw [sI_lt (by omega) (by omega)]; omega), if_pos (by rw [sI_le (by omega) (by omega)]; omega)]
      | succ n ihn =>
        intro f fq A1 hf hq hF h4 h3
        obtain ⟨fq', rfl⟩ : ∃ x, fq = x + 1 := ⟨fq - 1, by omega⟩
        have hfo : f ≤ opn ch i ∧ f < most := by split at hf <;> omega
        have hfb := fil_b (ch := ch) hs8 f
        have e94 : A1 94 f = sI (fil ch sz i f) := by rw [h4 f (by omega), h94 f (by omega)]
        have un : ∀ q, fX6_fits_h33 fu (DX6_fits fu (dp' + 1)) (sI i) (sI (opn ch i)) (sI most) (sI room) (fq' + 1) q = fX6_fits_i33 fu (DX6_fits fu (dp' + 1)) (sI i) (sI (opn ch i)) (sI most) (sI room) (fX6_fits_h33 fu (DX6_fits fu (dp' + 1)) (sI i) (sI (opn ch i)) (sI most) (sI room) fq') q.1 q.2.1 q.2.2.1 q.2.2.2 := fun _ => rfl
        rw [un]
        dsimp only
        unfold fX6_fits_i33
        rw [if_neg (by rw [sI_lt (by omega) (by omega)]; omega), if_neg (by rw [sI_le (by omega) (by omega)]; omega)]
        simp only [mck_s (show f < 40 by omega) (show f < 2000000000 by omega), mck_s (show i < 40 by omega) (show i < 2000000000 by omega), sI_nn (show f < 2000000000 by omega), sI_nn (show i < 2000000000 by omega), mlet]
        rw [e94, sI_add]
        by_cases c : fil ch sz i f + sz i ≤ room
        · rw [if_neg (by rw [sI_lt (by omega) (by omega)]; omega)]
          have eo : (if sI (opn ch i) < sI f + 1 then sI f + 1 else sI (opn ch i)) = sI (opn (upd1 ch i f) (i + 1)) := by
            rw [opn_u1, sI_1]
            by_cases q : opn ch i < f + 1
            · rw [if_pos q, if_pos (by rw [sI_lt (by omega) (by omega)]; exact q)]
            · rw [if_neg q, if_neg (by rw [sI_lt (by omega) (by omega)]; exact q)]
          rw [eo, sI_1]
          have e1 : DX6_fits fu (dp' + 1) (sI (i + 1)) = fX6_fits_b8 fu (DX6_fits fu dp') (sI (i + 1)) := by
            show BX6_fits fu (DX6_fits fu dp') (sI (i + 1)) = _
            funext a2 a3 a4 M' L'
            unfold BX6_fits
            rw [if_neg (by rw [sI_eql (by omega) (by decide)]; omega)]
          rw [e1]
          have hF2 : FtC A (mset (mset A1 94 f (sI (fil ch sz i f + sz i))) 93 i (sI f)) := by
            intro a y q1 q2
            rw [mset_n (by omega), mset_n (by omega)]
            exact hF a y q1 q2
          obtain ⟨A2, k1, k2⟩ := ih (i + 1) dp' (upd1 ch i f) (mset (mset A1 94 f (sI (fil ch sz i f + sz i))) 93 i (sI f)) (by omega) (by omega) (tgt_u ht hfo.1) (GpC_f ⟨g1, g2, g3⟩ hF2) (by
            intro x hx
            rw [mset_n (by omega), fil_u1]
            by_cases q : f = x
            · subst q; rw [mset_s, if_pos rfl]
            · rw [mset_n (by omega), if_neg q, h4 x hx, h94 x hx, Nat.add_zero]) (by
            intro j hj
            by_cases q : j = i
            · subst q; rw [mset_s, upd1_s]
            · rw [mset_n (by omega), mset_n (by omega), upd1_n q, h3 j (by omega), h93 j (by omega)])
          have hF3 : FtC A A2 := fun a y q1 q2 => by rw [k1 a y q1 q2]; exact hF2 a y q1 q2
          rcases k2 with ⟨ch', s1, s2, s3⟩ | ⟨s1, s2, s3, s4⟩
          · refine ⟨A2, hF3, Or.inl ⟨ch', ?_, ?_, s3⟩⟩
            · unfold tr
              rw [if_pos c, s1]
            · rw [s2, mb3_s, if_neg (by decide)]
          · rw [s2, mb3_s, if_pos (by decide)]
            have e5 : A2 94 f = sI (fil ch sz i f + sz i) := by rw [s3 f (by omega), mset_n (by omega), mset_s]
            rw [e5, sI_sub (by omega), Nat.add_sub_cancel]
            unfold fX6_fits_b115
            simp only [mlet]
            rw [sI_1]
            obtain ⟨A3, m1, m2⟩ := ihn (f + 1) fq' (mset A2 94 f (sI (fil ch sz i f))) (by omega) (by omega) (fun a y q1 q2 => by rw [mset_n (by omega)]; exact hF3 a y q1 q2) (by
              intro x hx
              by_cases q : x = f
              · subst q; rw [mset_s, h94 x hx]
              · rw [mset_n (by omega), s3 x hx, mset_n (by omega), mset_n (by omega), h4 x hx]) (by
              intro j hj
              rw [mset_n (by omega), s4 j (by omega), mset_n (by omega), mset_n (by omega), h3 j hj])
            have et : tr (fun f => if fil ch sz i f + sz i ≤ room then fnd sz room most r (i + 1) (upd1 ch i f) else none) (n + 1) f = tr (fun f => if fil ch sz i f + sz i ≤ room then fnd sz room most r (i + 1) (upd1 ch i f) else none) n (f + 1) := by
              conv => lhs; unfold tr
              rw [if_pos c, s1]
            rw [et]
            exact ⟨A3, m1, m2⟩
        · rw [if_pos (by rw [sI_lt (by omega) (by omega)]; omega)]
          unfold fX6_fits_b115
          simp only [mlet]
          rw [sI_1]
          have et : tr (fun f => if fil ch sz i f + sz i ≤ room then fnd sz room most r (i + 1) (upd1 ch i f) else none) (n + 1) f = tr (fun f => if fil ch sz i f + sz i ≤ room then fnd sz room most r (i + 1) (upd1 ch i f) else none) n (f + 1) := by
            conv => lhs; unfold tr
            rw [if_neg c]
          rw [et]
          exact ihn (f + 1) fq' A1 (by omega) (by omega) hF h4 h3
    obtain ⟨A', k1, k2⟩ := key (if opn ch i < most then opn ch i + 1 else most) 0 fu A (by omega) (by split <;> omega) (fun _ _ _ _ => rfl) (fun _ _ => rfl) (fun _ _ => rfl)
    exact ⟨A', k1, k2⟩
/-- where the first frame with room is taken -/
abbrev ffi (sz : Nat → Nat) (room : Nat) (ch : Nat → Nat) (i : Nat) : Prop := ch i ≤ opn ch i ∧ (∀ f, f < ch i → room < fil ch sz i f + sz i) ∧ (ch i < opn ch i → fil ch sz i (ch i) + sz i ≤ room)
/-- the choices that the document asks for -/
def PkW (sz : Nat → Nat) (room m : Nat) (ch : Nat → Nat) : Prop :=
  (m ≤ 7 → ∃ most, 1 ≤ most ∧ most ≤ m ∧ (∀ x, 1 ≤ x → x < most → fnd sz room x m 0 (fun _ => 0) = none) ∧ fnd sz room most m 0 (fun _ => 0) = some ch) ∧ (7 < m → ∀ i, i < m → ffi sz room ch i)
theorem PkW_u {sz : Nat → Nat} {room m : Nat} {ch ch' : Nat → Nat} (h : PkW sz room m ch) (h' : PkW sz room m ch') : ∀ j, j < m → ch j = ch' j := by
  by_cases c : m ≤ 7
  · obtain ⟨x, x1, x2, x3, x4⟩ := h.1 c
    obtain ⟨y, y1, y2, y3, y4⟩ := h'.1 c
    have e : x = y := by
      apply Nat.le_antisymm
      · apply Nat.le_of_not_lt
        intro q
        rw [x3 y y1 q] at y4
        cases y4
      · apply Nat.le_of_not_lt
        intro q
        rw [y3 x x1 q] at x4
        cases x4
    subst e
    rw [x4] at y4
    cases y4
    exact fun _ _ => rfl
  · have a := h.2 (by omega)
    have b := h'.2 (by omega)
    have : ∀ i, i ≤ m → ∀ j, j < i → ch j = ch' j := by
      intro i
      induction i with
      | zero => intro _ j hj; omega
      | succ i ih =>
        intro hi j hj
        have e := ih (by omega)
        by_cases ej : j = i
        · subst ej
          obtain ⟨a1, a2, a3⟩ := a j (by omega)
          obtain ⟨b1, b2, b3⟩ := b j (by omega)
          have eo : opn ch j = opn ch' j := opn_c e
          have ef : ∀ f, fil ch sz j f = fil ch' sz j f := fun f => fil_c e f
          apply Nat.le_antisymm
          · apply Nat.le_of_not_lt
            intro q
            have q1 := a2 _ q
            have q2 := b3 (by omega)
            rw [ef] at q1
            omega
          · apply Nat.le_of_not_lt
            intro q
            have q1 := b2 _ q
            have q2 := a3 (by omega)
            rw [ef] at q2
            omega
        · exact e j (by omega)
    exact this m (Nat.le_refl _)
/-- what all such choices have in common -/
theorem PkW_way {sz : Nat → Nat} {room m : Nat} {ch : Nat → Nat} (hm : 0 < m) (hr : ∀ j, j < m → sz j ≤ room) (h : PkW sz room m ch) : (∀ j, j < m → ch j ≤ opn ch j ∧ fil ch sz j (ch j) + sz j ≤ room) := by
  intro j hj
  by_cases c : m ≤ 7
  · obtain ⟨x, x1, x2, x3, x4⟩ := h.1 c
    obtain ⟨w1, w2⟩ := fnd_some _ _ _ _ x4
    obtain ⟨v1, v2, v3⟩ := w2 j (by omega) (by omega)
    exact ⟨v1, v3⟩
  · obtain ⟨a1, a2, a3⟩ := h.2 (by omega) j hj
    refine ⟨a1, ?_⟩
    by_cases q : ch j < opn ch j
    · exact a3 q
    · rw [fil_0 (by omega)]
      have := hr j hj
      omega
theorem c_empty {fu m : Nat} {A : mwM} {L : mwL} (hfu : 50 ≤ fu) (h : A 61 13 = sI m) (hm : m ≤ 40) : ∃ A', DX6_emptyFrames fu A L = some (A', L) ∧ (∀ f, f < m → A' 94 f = 0) ∧ ∀ a y, a ≠ 94 → A' a y = A a y := by
  have key : ∀ (n f q : Nat) (B : mwM), f + n = m → n < q → (∀ x, x < f → B 94 x = 0) → (∀ a y, a ≠ 94 → B a y = A a y) → ∃ A', fX6_emptyFrames_h2 fu q (sI f, B, L) = some (A', L) ∧ (∀ f, f < m → A' 94 f = 0) ∧ ∀ a y, a ≠ 94 → A' a y = A a y := by
    intro n
    induction n with
    | zero =>
      intro f q B hf hq h1 h2
      obtain ⟨q', rfl⟩ : ∃ x, q = x + 1 := ⟨q - 1, by omega⟩
      have : f = m := by omega
      subst this
      refine ⟨B, ?_, h1, h2⟩
      unfold fX6_emptyFrames_h2
      rw [mloop_S]
      show fX6_emptyFrames_i2 fu _ (sI f) B L = _
      unfold fX6_emptyFrames_i2
      rw [h2 61 13 (by omega), h, if_pos (by rw [sI_le (by omega) (by omega)]; omega)]
    | succ n ih =>
      intro f q B hf hq h1 h2
      obtain ⟨q', rfl⟩ : ∃ x, q = x + 1 := ⟨q - 1, by omega⟩
      unfold fX6_emptyFrames_h2
      rw [mloop_S]
      show ∃ A', fX6_emptyFrames_i2 fu (fX6_emptyFrames_h2 fu q') (sI f) B L = some (A', L) ∧ _
      unfold fX6_emptyFrames_i2
      rw [h2 61 13 (by omega), h, if_neg (by rw [sI_le (by omega) (by omega)]; omega), mck_s (by omega) (by omega), sI_nn (by omega)]
      simp only [mlet]
      rw [sI_1]
      refine ih (f + 1) q' (mset B 94 f 0) (by omega) (by omega) (fun x hx => ?_) (fun a y q1 => by rw [mset_n (by omega)]; exact h2 a y q1)
      by_cases e : x = f
      · subst e; rw [mset_s]
      · rw [mset_n (by omega)]; exact h1 x (by omega)
  exact key m 0 fu A (by omega) (by omega) (fun x hx => by omega) (fun _ _ _ => rfl)
/-- the class: whether the groups go into so many frames -/
theorem c_fits0 {fu m most room : Nat} {g sz : Nat → Nat} {A : mwM} {L : mwL} (hfu : 50 ≤ fu) (hmost : most ≤ m) (hroom : room ≤ 8) (hG : GpC A m g sz) : ∃ A', FtC A A' ∧ ((∃ ch', fnd sz room most m 0 (fun _ => 0) = some ch' ∧ DX6_fits fu 42 0 0 (sI most) (sI room) A L = some (1, A', L) ∧ ∀ j, j < m → A' 93 j = sI (ch' j)) ∨ (fnd sz room most m 0 (fun _ => 0) = none ∧ DX6_fits fu 42 0 0 (sI most) (sI room) A L = some (0, A', L))) := by
  obtain ⟨A1, e1, z1, f1⟩ := c_empty (L := L) hfu hG.1 hG.2.1
  have hF : FtC A A1 := fun a y _ q => f1 a y q
  have e2 : DX6_fits fu 42 0 0 (sI most) (sI room) A L = fX6_fits_b8 fu (DX6_fits fu 41) (sI 0) (sI (opn (fun _ => 0) 0)) (sI most) (sI room) A1 L := by
    show BX6_fits fu (DX6_fits fu 41) 0 0 (sI most) (sI room) A L = _
    unfold BX6_fits
    rw [if_pos (show (0 : Int32) = 0 from rfl), e1]
    rfl
  have hm40 := hG.2.1
  obtain ⟨A', k1, k2⟩ := c_fits8 (L := L) hfu hmost hroom m 0 41 (fun _ => 0) A1 (by omega) (by omega) (fun j hj => by omega) (GpC_f hG hF) (fun f hf => by rw [z1 f hf]; rfl) (fun j hj => by omega)
  refine ⟨A', fun a y q1 q2 => by rw [k1 a y q1 q2]; exact hF a y q1 q2, ?_⟩
  rw [e2]
  rcases k2 with ⟨ch', s1, s2, s3⟩ | ⟨s1, s2, s3, s4⟩
  · exact Or.inl ⟨ch', s1, s2, s3⟩
  · exact Or.inr ⟨s1, s2⟩
theorem c_packBest {fu m room : Nat} {g sz : Nat → Nat} {A : mwM} {L : mwL} (hfu : 50 ≤ fu) (hm : 0 < m) (hm7 : m ≤ 7) (hroom : room ≤ 8) (hr : ∀ j, j < m → sz j ≤ room) (hG : GpC A m g sz) : ∃ ch A', DX6_packBest fu (sI room) A L = some (sI (opn ch m), A', L) ∧ PkW sz room m ch ∧ FtC A A' ∧ ∀ j, j < m → A' 93 j = sI (ch j) := by
  have fin : ∀ most ch, 1 ≤ most → most ≤ m → (∀ x, 1 ≤ x → x < most → fnd sz room x m 0 (fun _ => 0) = none) → fnd sz room most m 0 (fun _ => 0) = some ch → opn ch m = most ∧ PkW sz room m ch := by
    intro most ch h1 h2 h3 h4
    obtain ⟨w1, w2⟩ := fnd_some _ _ _ _ h4
    rw [Nat.zero_add] at w2
    exact ⟨way_all hm w2 h3, fun _ => ⟨most, h1, h2, h3, h4⟩, fun q => by omega⟩
  have key : ∀ (n most q : Nat) (B : mwM), most + n = m → n < q → 1 ≤ most → FtC A B → (∀ x, 1 ≤ x → x < most → fnd sz room x m 0 (fun _ => 0) = none) → ∃ ch A', fX6_packBest_h2 fu (sI room) q (sI most, B, L) = some (sI (opn ch m), A', L) ∧ PkW sz room m ch ∧ FtC A A' ∧ ∀ j, j < m → A' 93 j = sI (ch j) := by
    intro n
    induction n with
    | zero =>
      intro most q B hf hq h1 hF hn
      obtain ⟨q', rfl⟩ : ∃ x, q = x + 1 := ⟨q - 1, by omega⟩
      have : most = m := by omega
      subst this
      have hG' := GpC_f hG hF
      obtain ⟨A', k1, k2⟩ := c_fits0 (L := L) (most := most) hfu (by omega) hroom hG'
      have un : fX6_packBest_h2 fu (sI room) (q' + 1) (sI most, B, L) = fX6_packBest_i2 fu (sI room) (fX6_packBest_h2 fu (sI room) q') (sI most) B L := rfl
      rw [un]
      unfold fX6_packBest_i2
      rw [hG'.1, if_pos (by rw [sI_le (by omega) (by omega)]; omega)]
      have hF2 : FtC A A' := fun a y q1 q2 => by rw [k1 a y q1 q2]; exact hF a y q1 q2
      rcases k2 with ⟨ch', s1, s2, s3⟩ | ⟨s1, s2⟩
      · obtain ⟨o1, o2⟩ := fin most ch' h1 (by omega) hn s1
        refine ⟨ch', A', ?_, o2, hF2, s3⟩
        rw [s2, mb3_s, hF2 61 13 (by omega) (by omega), hG.1, o1]
      · exact absurd (way_own hr) (fun w => fnd_none _ _ _ _ s1 (fun j hj => by omega) (by rw [Nat.zero_add]; exact w))
    | succ n ih =>
      intro most q B hf hq h1 hF hn
      obtain ⟨q', rfl⟩ : ∃ x, q = x + 1 := ⟨q - 1, by omega⟩
      have hG' := GpC_f hG hF
      obtain ⟨A', k1, k2⟩ := c_fits0 (L := L) (most := most) hfu (by omega) hroom hG'
      have un : fX6_packBest_h2 fu (sI room) (q' + 1) (sI most, B, L) = fX6_packBest_i2 fu (sI room) (fX6_packBest_h2 fu (sI room) q') (sI most) B L := rfl
      rw [un]
      unfold fX6_packBest_i2
      rw [hG'.1, if_neg (by rw [sI_le (by omega) (by omega)]; omega)]
      have hF2 : FtC A A' := fun a y q1 q2 => by rw [k1 a y q1 q2]; exact hF a y q1 q2
      rcases k2 with ⟨ch', s1, s2, s3⟩ | ⟨s1, s2⟩
      · obtain ⟨o1, o2⟩ := fin most ch' h1 (by omega) hn s1
        refine ⟨ch', A', ?_, o2, hF2, s3⟩
        rw [s2, mb3_s, if_neg (by decide), o1]
      · rw [s2, mb3_s, if_pos (by decide)]
        simp only [mlet]
        rw [sI_1]
        refine ih (most + 1) q' A' (by omega) (by omega) (by omega) hF2 (fun x x1 x2 => ?_)
        by_cases e : x = most
        · subst e; exact s1
        · exact hn x x1 (by omega)
  exact key (m - 1) 1 fu A (by omega) (by omega) (by omega) (fun _ _ _ _ => rfl) (fun x x1 x2 => by omega)
/-! the class: many groups, one behind another -/
theorem ffi_c {sz : Nat → Nat} {room i : Nat} {ch ch' : Nat → Nat} (h : ∀ j, j ≤ i → ch j = ch' j) (hf : ffi sz room ch i) : ffi sz room ch' i := by
  obtain ⟨h1, h2, h3⟩ := hf
  have eo : opn ch i = opn ch' i := opn_c (fun j hj => h j (by omega))
  have ef : ∀ f, fil ch sz i f = fil ch' sz i f := fun f => fil_c (fun j hj => h j (by omega)) f
  have e := h i (by omega)
  refine ⟨by rw [← e, ← eo]; exact h1, fun f hf => ?_, fun q => ?_⟩
  · rw [← ef]; exact h2 f (by omega)
  · rw [← e, ← ef]; exact h3 (by omega)
theorem c_packFirstFit {fu m room : Nat} {g sz : Nat → Nat} {A : mwM} {L : mwL} (hfu : 50 ≤ fu) (hm7 : 7 < m) (hroom : room ≤ 8) (hG : GpC A m g sz) : ∃ ch A', DX6_packFirstFit fu (sI room) A L = some (sI (opn ch m), A', L) ∧ PkW sz room m ch ∧ FtC A A' ∧ ∀ j, j < m → A' 93 j = sI (ch j) := by
  obtain ⟨A1, e1, z1, f1⟩ := c_empty (L := L) hfu hG.1 hG.2.1
  have hm := hG.2.1
  unfold DX6_packFirstFit
  rw [e1, mb2_s]
  have key : ∀ (n i q : Nat) (ch : Nat → Nat) (B : mwM), i + n = m → n < q → FtC A B → (∀ x, x < m → B 94 x = sI (fil ch sz i x)) → (∀ j, j < i → B 93 j = sI (ch j)) → (∀ j, j < i → ffi sz room ch j) → ∃ ch' A', fX6_packFirstFit_h8 fu (sI room) q (sI (opn ch i), sI i, B, L) = some (sI (opn ch' m), A', L) ∧ PkW sz room m ch' ∧ FtC A A' ∧ ∀ j, j < m → A' 93 j = sI (ch' j) := by
    intro n
    induction n with
    | zero =>
      intro i q ch B hi hq hF h4 h3 hw
      obtain ⟨q', rfl⟩ : ∃ x, q = x + 1 := ⟨q - 1, by omega⟩
      have : i = m := by omega
      subst this
      have hG' := GpC_f hG hF
      have un : fX6_packFirstFit_h8 fu (sI room) (q' + 1) (sI (opn ch i), sI i, B, L) = fX6_packFirstFit_i8 fu (sI room) (fX6_packFirstFit_h8 fu (sI room) q') (sI (opn ch i)) (sI i) B L := rfl
      refine ⟨ch, B, ?_, ⟨fun q => by omega, fun _ => hw⟩, hF, h3⟩
      rw [un]
      unfold fX6_packFirstFit_i8
      rw [hG'.1, if_pos (by rw [sI_le (by omega) (by omega)]; omega)]
    | succ n ih =>
      intro i q ch B hi hq hF h4 h3 hw
      obtain ⟨q', rfl⟩ : ∃ x, q = x + 1 := ⟨q - 1, by omega⟩
      have hG' := GpC_f hG hF
      obtain ⟨b1, b2, b3, b4, bt, b5, b6, b7⟩ := hG'.2.2 i (by omega)
      have ht : tgt ch i := fun j hj => (hw j hj).1
      have hop := tgt_le ht
      have hs8 : ∀ j, j < i → sz j ≤ 8 := fun j hj => (hG'.2.2 j (by omega)).2.2.2.1
      have un : fX6_packFirstFit_h8 fu (sI room) (q' + 1) (sI (opn ch i), sI i, B, L) = fX6_packFirstFit_i8 fu (sI room) (fX6_packFirstFit_h8 fu (sI room) q') (sI (opn ch i)) (sI i) B L := rfl
      rw [un]
      unfold fX6_packFirstFit_i8
      rw [hG'.1, if_neg (by rw [sI_le (by omega) (by omega)]; omega), mck_s (by omega) (by omega), sI_nn (by omega), b1, c_octetsOf b2 b5 b6, mb3_s, ← b7]
      -- where the choice falls
      have tail : ∀ f, f ≤ opn ch i → (∀ x, x < f → room < fil ch sz i x + sz i) → (f < opn ch i → fil ch sz i f + sz i ≤ room) → ∃ ch' A', fX6_packFirstFit_b57 fu (sI room) (fX6_packFirstFit_h8 fu (sI room) q') (sI (opn ch i)) (sI i) (sI (sz i)) (sI f) B L = some (sI (opn ch' m), A', L) ∧ PkW sz room m ch' ∧ FtC A A' ∧ ∀ j, j < m → A' 93 j = sI (ch' j) := by
        intro f hf hb hr
        unfold fX6_packFirstFit_b57
        simp only [mck_s (show f < 40 by omega) (show f < 2000000000 by omega), mck_s (show i < 40 by omega) (show i < 2000000000 by omega), sI_nn (show f < 2000000000 by omega), sI_nn (show i < 2000000000 by omega), mlet]
        have eo : (if sI (opn ch i) < sI f + 1 then sI f + 1 else sI (opn ch i)) = sI (opn (upd1 ch i f) (i + 1)) := by
          rw [opn_u1, sI_1]
          by_cases q : opn ch i < f + 1
          · rw [if_pos q, if_pos (by rw [sI_lt (by omega) (by omega)]; exact q)]
          · rw [if_neg q, if_neg (by rw [sI_lt (by omega) (by omega)]; exact q)]
        rw [eo, sI_1, h4 f (by omega), sI_add]
        refine ih (i + 1) q' (upd1 ch i f) _ (by omega) (by omega) (fun a y q1 q2 => by rw [mset_n (by omega), mset_n (by omega)]; exact hF a y q1 q2) ?_ ?_ ?_
        · intro x hx
          rw [mset_n (by omega), fil_u1]
          by_cases q : f = x
          · subst q; rw [mset_s, if_pos rfl]
          · rw [mset_n (by omega), if_neg q, h4 x hx, Nat.add_zero]
        · intro j hj
          by_cases q : j = i
          · subst q; rw [mset_s, upd1_s]
          · rw [mset_n (by omega), mset_n (by omega), upd1_n q, h3 j (by omega)]
        · intro j hj
          by_cases q : j = i
          · subst q
            refine ⟨by rw [upd1_s, opn_u]; exact hf, fun x hx => ?_, fun w => ?_⟩
            · rw [upd1_s] at hx
              rw [fil_u]; exact hb x hx
            · rw [upd1_s, opn_u] at w
              rw [upd1_s, fil_u]; exact hr w
          · exact ffi_c (ch := ch) (fun x hx => (upd1_n (by omega)).symm) (hw j (by omega))
      have inner : ∀ (k f p : Nat), f + k = opn ch i → k < p → (∀ x, x < f → room < fil ch sz i x + sz i) → ∃ ch' A', fX6_packFirstFit_h31 fu (sI room) (fX6_packFirstFit_h8 fu (sI room) q') p (sI (opn ch i), sI i, sI (sz i), sI f, B, L) = some (sI (opn ch' m), A', L) ∧ PkW sz room m ch' ∧ FtC A A' ∧ ∀ j, j < m → A' 93 j = sI (ch' j) := by
        intro k
        induction k with
        | zero =>
          intro f p hf hp hb
          obtain ⟨p', rfl⟩ : ∃ x, p = x + 1 := ⟨p - 1, by omega⟩
          have un2 : fX6_packFirstFit_h31 fu (sI room) (fX6_packFirstFit_h8 fu (sI room) q') (p' + 1) (sI (opn ch i), sI i, sI (sz i), sI f, B, L) = fX6_packFirstFit_i31 fu (sI room) (fX6_packFirstFit_h8 fu (sI room) q') (fX6_packFirstFit_h31 fu (sI room) (fX6_packFirstFit_h8 fu (sI room) q') p') (sI (opn ch i)) (sI i) (sI (sz i)) (sI f) B L := rfl
          rw [un2]
          unfold fX6_packFirstFit_i31
          rw [if_pos (by rw [sI_le (by omega) (by omega)]; omega)]
          exact tail f (by omega) hb (fun w => by omega)
        | succ k ihk =>
          intro f p hf hp hb
          obtain ⟨p', rfl⟩ : ∃ x, p = x + 1 := ⟨p - 1, by omega⟩
          have un2 : fX6_packFirstFit_h31 fu (sI room) (fX6_packFirstFit_h8 fu (sI room) q') (p' + 1) (sI (opn ch i), sI i, sI (sz i), sI f, B, L) = fX6_packFirstFit_i31 fu (sI room) (fX6_packFirstFit_h8 fu (sI room) q') (fX6_packFirstFit_h31 fu (sI room) (fX6_packFirstFit_h8 fu (sI room) q') p') (sI (opn ch i)) (sI i) (sI (sz i)) (sI f) B L := rfl
          rw [un2]
          have hfb := fil_b (ch := ch) hs8 f
          unfold fX6_packFirstFit_i31
          rw [if_neg (by rw [sI_le (by omega) (by omega)]; omega), mck_s (by omega) (by omega), sI_nn (by omega), h4 f (by omega), sI_add]
          by_cases c : fil ch sz i f + sz i ≤ room
          · rw [if_pos (by rw [sI_le (by omega) (by omega)]; exact c)]
            exact tail f (by omega) hb (fun _ => c)
          · rw [if_neg (by rw [sI_le (by omega) (by omega)]; exact c)]
            simp only [mlet]
            rw [sI_1]
            refine ihk (f + 1) p' (by omega) (by omega) (fun x hx => ?_)
            by_cases e : x = f
            · subst e; omega
            · exact hb x (by omega)
      exact inner (opn ch i) 0 fu (by omega) (by omega) (fun x hx => by omega)
  exact key m 0 fu (fun _ => 0) A1 (by omega) (by omega) (fun a y _ q => f1 a y q) (fun x hx => by rw [z1 x hx]; rfl) (fun j hj => by omega) (fun j hj => by omega)
/-! the class: groups go to their places, frames are opened -/
abbrev OpF (A A' : mwM) (F s : Nat) : Prop := A' 74 F = A 68 s ∧ A' 75 F = A 66 s ∧ A' 76 F = A 70 s ∧ A' 79 F = A 66 s ∧ A' 77 F = 0 ∧ ∀ c, c < 6 → A' (86 + c) F = 0
theorem c_openFrame {fu s F : Nat} {A : mwM} {L : mwL} (hfu : 50 ≤ fu) (hs : s < 40) (hF : A 61 11 = sI F) (h40 : F < 40) : ∃ A', DX6_openFrame fu (sI s) A L = some (A', L) ∧ A' 61 11 = sI (F + 1) ∧ OpF A A' F s ∧ ∀ a y, ¬ (a = 61 ∧ y = 11) → ¬ ((74 ≤ a ∧ a ≤ 77 ∨ a = 79 ∨ 86 ≤ a ∧ a ≤ 91) ∧ y = F) → A' a y = A a y := by
  unfold DX6_openFrame
  simp only [mlet]
  have r1 : ∀ (B : mwM) (a : Nat) (x : Int32), a ≠ 61 → B 61 11 = sI F → mset B a F x 61 11 = sI F := fun B a x h1 h2 => by rw [mset_n (by omega)]; exact h2
  rw [mck_s hs (by omega), hF, mck_s h40 (by omega), mck_s hs (by omega), sI_nn (show F < 2000000000 by omega), sI_nn (show s < 2000000000 by omega)]
  rw [r1 A 74 _ (by omega) hF, mck_s h40 (by omega), mck_s hs (by omega), sI_nn (show F < 2000000000 by omega), mset_n (show ¬ (66 = 74 ∧ s = F) by omega)]
  rw [r1 _ 75 _ (by omega) (r1 A 74 _ (by omega) hF), mck_s h40 (by omega), mck_s hs (by omega), sI_nn (show F < 2000000000 by omega), mset_n (show ¬ (70 = 75 ∧ s = F) by omega), mset_n (show ¬ (70 = 74 ∧ s = F) by omega)]
  rw [r1 _ 76 _ (by omega) (r1 _ 75 _ (by omega) (r1 A 74 _ (by omega) hF)), mck_s h40 (by omega), sI_nn (show F < 2000000000 by omega), mset_n (show ¬ (66 = 76 ∧ s = F) by omega), mset_n (show ¬ (66 = 75 ∧ s = F) by omega), mset_n (show ¬ (66 = 74 ∧ s = F) by omega)]
  rw [r1 _ 79 _ (by omega) (r1 _ 76 _ (by omega) (r1 _ 75 _ (by omega) (r1 A 74 _ (by omega) hF))), mck_s h40 (by omega), sI_nn (show F < 2000000000 by omega)]
  generalize hB : mset (mset (mset (mset (mset A 74 F (A 68 s)) 75 F (A 66 s)) 76 F (A 70 s)) 79 F (A 66 s)) 77 F 0 = B
  have b61 : B 61 11 = sI F := by rw [← hB]; exact r1 _ 77 _ (by omega) (r1 _ 79 _ (by omega) (r1 _ 76 _ (by omega) (r1 _ 75 _ (by omega) (r1 A 74 _ (by omega) hF))))
  have b74 : B 74 F = A 68 s := by rw [← hB, mset_n (by omega), mset_n (by omega), mset_n (by omega), mset_n (by omega), mset_s]
  have b75 : B 75 F = A 66 s := by rw [← hB, mset_n (by omega), mset_n (by omega), mset_n (by omega), mset_s]
  have b76 : B 76 F = A 70 s := by rw [← hB, mset_n (by omega), mset_n (by omega), mset_s]
  have b79 : B 79 F = A 66 s := by rw [← hB, mset_n (by omega), mset_s]
  have b77 : B 77 F = 0 := by rw [← hB, mset_s]
  have bf : ∀ a y, ¬ ((74 ≤ a ∧ a ≤ 77 ∨ a = 79 ∨ 86 ≤ a ∧ a ≤ 91) ∧ y = F) → B a y = A a y := by
    intro a y q
    rw [← hB, mset_n (by omega), mset_n (by omega), mset_n (by omega), mset_n (by omega), mset_n (by omega)]
  clear hB
  have key : ∀ (n c q : Nat) (C : mwM), c + n = 6 → n < q → (∀ x, x < c → C (86 + x) F = 0) → (∀ a y, ¬ (86 ≤ a ∧ a ≤ 91 ∧ y = F) → C a y = B a y) → ∃ A', fX6_openFrame_h91 fu (sI s) q (sI c, C, L) = some (A', L) ∧ A' 61 11 = sI (F + 1) ∧ OpF A A' F s ∧ ∀ a y, ¬ (a = 61 ∧ y = 11) → ¬ ((74 ≤ a ∧ a ≤ 77 ∨ a = 79 ∨ 86 ≤ a ∧ a ≤ 91) ∧ y = F) → A' a y = A a y := by
    intro n
    induction n with
    | zero =>
      intro c q C hc hq h1 h2
      obtain ⟨q', rfl⟩ : ∃ x, q = x + 1 := ⟨q - 1, by omega⟩
      have : c = 6 := by omega
      subst this
      have un : fX6_openFrame_h91 fu (sI s) (q' + 1) (sI 6, C, L) = fX6_openFrame_i91 fu (sI s) (fX6_openFrame_h91 fu (sI s) q') (sI 6) C L := rfl
      rw [un]
      unfold fX6_openFrame_i91
      rw [if_pos (by decide)]
      simp only [mlet]
      rw [h2 61 11 (by omega), b61, sI_1]
      refine ⟨_, rfl, by rw [mset_s], ⟨?_, ?_, ?_, ?_, ?_, ?_⟩, ?_⟩
      · rw [mset_n (by omega), h2 _ _ (by omega), b74]
      · rw [mset_n (by omega), h2 _ _ (by omega), b75]
      · rw [mset_n (by omega), h2 _ _ (by omega), b76]
      · rw [mset_n (by omega), h2 _ _ (by omega), b79]
      · rw [mset_n (by omega), h2 _ _ (by omega), b77]
      · intro x hx; rw [mset_n (by omega)]; exact h1 x hx
      · intro a y q1 q2
        rw [mset_n q1, h2 a y (by omega), bf a y q2]
    | succ n ih =>
      intro c q C hc hq h1 h2
      obtain ⟨q', rfl⟩ : ∃ x, q = x + 1 := ⟨q - 1, by omega⟩
      have un : fX6_openFrame_h91 fu (sI s) (q' + 1) (sI c, C, L) = fX6_openFrame_i91 fu (sI s) (fX6_openFrame_h91 fu (sI s) q') (sI c) C L := rfl
      rw [un]
      unfold fX6_openFrame_i91
      rw [if_neg (by rw [sI_lle (by decide) (by omega)]; omega), mck_s (by omega) (by omega), h2 61 11 (by omega), b61, mck_s h40 (by omega), sI_nn (by omega), sI_nn (by omega)]
      simp only [mlet]
      rw [sI_1]
      refine ih (c + 1) q' _ (by omega) (by omega) (fun x hx => ?_) (fun a y q1 => by rw [mset_n (by omega)]; exact h2 a y q1)
      by_cases e : x = c
      · subst e; rw [mset_s]
      · rw [mset_n (by omega)]; exact h1 x (by omega)
  exact key 6 0 fu B (by omega) (by omega) (fun x hx => by omega) (fun _ _ _ => rfl)
/-- behind the packing of some groups -/
def PgC (A A' : mwM) (m F0 : Nat) (g sz ch : Nat → Nat) : Prop :=
  A' 61 11 = sI (F0 + opn ch m) ∧ (∀ j, j < m → A' 71 (g j) = sI (F0 + ch j) ∧ A' 72 (g j) = sI (fil ch sz j (ch j))) ∧ (∀ f, F0 ≤ f → f < F0 + opn ch m → OpF A A' f (g 0)) ∧ (∀ a y, a ≠ 71 → a ≠ 72 → a ≠ 93 → a ≠ 94 → ¬ (a = 61 ∧ y = 11) → ¬ ((74 ≤ a ∧ a ≤ 77 ∨ a = 79 ∨ 86 ≤ a ∧ a ≤ 91) ∧ F0 ≤ y) → A' a y = A a y) ∧ ∀ y, (∀ j, j < m → y ≠ g j) → A' 71 y = A 71 y ∧ A' 72 y = A 72 y
theorem c_placeGroups {fu m F0 : Nat} {g sz ch : Nat → Nat} {A : mwM} {L : mwL} (hfu : 50 ≤ fu) (hm : 0 < m) (hG : GpC A m g sz) (hi : ∀ i j, i < m → j < m → g i = g j → i = j) (h93 : ∀ j, j < m → A 93 j = sI (ch j)) (ht : tgt ch m) (hF : A 61 11 = sI F0) (h40 : F0 + opn ch m ≤ 40) : ∃ A', DX6_placeGroups fu (sI (opn ch m)) A L = some (A', L) ∧ PgC A A' m F0 g sz ch := by
  obtain ⟨g1, g2, g3⟩ := hG
  obtain ⟨A1, e1, z1, f1⟩ := c_empty (L := L) hfu g1 g2
  have hop := tgt_le ht
  unfold DX6_placeGroups
  rw [e1, mb2_s]
  -- the frames
  have opens : ∀ (n f q : Nat) (B : mwM), f + n = opn ch m → n < q → B 61 11 = sI (F0 + f) → (∀ j, j < m → B 71 (g j) = sI (F0 + ch j) ∧ B 72 (g j) = sI (fil ch sz j (ch j))) → (∀ x, F0 ≤ x → x < F0 + f → OpF A B x (g 0)) → (∀ a y, a ≠ 71 → a ≠ 72 → a ≠ 93 → a ≠ 94 → ¬ (a = 61 ∧ y = 11) → ¬ ((74 ≤ a ∧ a ≤ 77 ∨ a = 79 ∨ 86 ≤ a ∧ a ≤ 91) ∧ F0 ≤ y) → B a y = A a y) → (∀ y, (∀ j, j < m → y ≠ g j) → B 71 y = A 71 y ∧ B 72 y = A 72 y) → ∃ A', fX6_placeGroups_h88 fu (sI (opn ch m)) q (sI f, B, L) = some (A', L) ∧ PgC A A' m F0 g sz ch := by
    intro n
    induction n with
    | zero =>
      intro f q B hf hq h1 h2 h3 h4 h5
      obtain ⟨q', rfl⟩ : ∃ x, q = x + 1 := ⟨q - 1, by omega⟩
      have un : fX6_placeGroups_h88 fu (sI (opn ch m)) (q' + 1) (sI f, B, L) = fX6_placeGroups_i88 fu (sI (opn ch m)) (fX6_placeGroups_h88 fu (sI (opn ch m)) q') (sI f) B L := rfl
      have ef : f = opn ch m := by omega
      rw [un]
      unfold fX6_placeGroups_i88
      rw [if_pos (by rw [sI_le (by omega) (by omega)]; omega)]
      rw [ef] at h1 h3
      exact ⟨B, rfl, h1, h2, h3, h4, h5⟩
    | succ n ih =>
      intro f q B hf hq h1 h2 h3 h4 h5
      obtain ⟨q', rfl⟩ : ∃ x, q = x + 1 := ⟨q - 1, by omega⟩
      have un : fX6_placeGroups_h88 fu (sI (opn ch m)) (q' + 1) (sI f, B, L) = fX6_placeGroups_i88 fu (sI (opn ch m)) (fX6_placeGroups_h88 fu (sI (opn ch m)) q') (sI f) B L := rfl
      rw [un]
      unfold fX6_placeGroups_i88
      obtain ⟨p1, p2, _⟩ := g3 0 hm
      have e0 : (0 : Int32).toNatClampNeg = 0 := rfl
      rw [if_neg (by rw [sI_le (by omega) (by omega)]; omega), e0, h4 92 0 (by omega) (by omega) (by omega) (by omega) (by omega) (by omega), p1]
      obtain ⟨B', k1, k2, k3, k4⟩ := c_openFrame (L := L) (A := B) hfu p2 h1 (by omega)
      rw [k1, mb2_s]
      simp only [mlet]
      rw [sI_1]
      refine ih (f + 1) q' B' (by omega) (by omega) (by rw [k2]; rfl) ?_ ?_ ?_ ?_
      · intro j hj
        rw [k4 _ _ (by omega) (by omega), k4 _ _ (by omega) (by omega)]
        exact h2 j hj
      · intro x x1 x2
        by_cases e : x = F0 + f
        · subst e
          obtain ⟨o1, o2, o3, o4, o5, o6⟩ := k3
          have r1 : ∀ a, a = 68 ∨ a = 66 ∨ a = 70 → B a (g 0) = A a (g 0) := fun a ha => h4 a _ (by omega) (by omega) (by omega) (by omega) (by omega) (by omega)
          exact ⟨by rw [o1]; exact r1 68 (by omega), by rw [o2]; exact r1 66 (by omega), by rw [o3]; exact r1 70 (by omega), by rw [o4]; exact r1 66 (by omega), o5, o6⟩
        · obtain ⟨o1, o2, o3, o4, o5, o6⟩ := h3 x x1 (by omega)
          exact ⟨by rw [k4 _ _ (by omega) (by omega)]; exact o1, by rw [k4 _ _ (by omega) (by omega)]; exact o2, by rw [k4 _ _ (by omega) (by omega)]; exact o3, by rw [k4 _ _ (by omega) (by omega)]; exact o4, by rw [k4 _ _ (by omega) (by omega)]; exact o5, fun c hc => by rw [k4 _ _ (by omega) (by omega)]; exact o6 c hc⟩
      · intro a y q1 q2 q3 q4 q5 q6
        rw [k4 a y q5 (by omega)]
        exact h4 a y q1 q2 q3 q4 q5 q6
      · intro y hy
        rw [k4 _ _ (by omega) (by omega), k4 _ _ (by omega) (by omega)]
        exact h5 y hy
  -- the groups
  have puts : ∀ (n i q : Nat) (B : mwM), i + n = m → n < q → (∀ x, x < m → B 94 x = sI (fil ch sz i x)) → (∀ j, j < i → B 71 (g j) = sI (F0 + ch j) ∧ B 72 (g j) = sI (fil ch sz j (ch j))) → (∀ a y, a ≠ 71 → a ≠ 72 → a ≠ 94 → B a y = A a y) → (∀ y, (∀ j, j < m → y ≠ g j) → B 71 y = A 71 y ∧ B 72 y = A 72 y) → ∃ A', fX6_placeGroups_h6 fu (sI (opn ch m)) q (sI i, B, L) = some (A', L) ∧ PgC A A' m F0 g sz ch := by
    intro n
    induction n with
    | zero =>
      intro i q B hq1 hq h1 h2 h3 h4
      obtain ⟨q', rfl⟩ : ∃ x, q = x + 1 := ⟨q - 1, by omega⟩
      have un : fX6_placeGroups_h6 fu (sI (opn ch m)) (q' + 1) (sI i, B, L) = fX6_placeGroups_i6 fu (sI (opn ch m)) (fX6_placeGroups_h6 fu (sI (opn ch m)) q') (sI i) B L := rfl
      have ei : i = m := by omega
      rw [un]
      unfold fX6_placeGroups_i6
      rw [h3 61 13 (by omega) (by omega) (by omega), g1, if_pos (by rw [sI_le (by omega) (by omega)]; omega)]
      rw [ei] at h2
      refine opens (opn ch m) 0 fu B (by omega) (by omega) (by rw [h3 61 11 (by omega) (by omega) (by omega)]; exact hF) h2 (fun x x1 x2 => by omega) (fun a y q1 q2 _ q4 _ _ => h3 a y q1 q2 q4) h4
    | succ n ih =>
      intro i q B hq1 hq h1 h2 h3 h4
      obtain ⟨q', rfl⟩ : ∃ x, q = x + 1 := ⟨q - 1, by omega⟩
      have un : fX6_placeGroups_h6 fu (sI (opn ch m)) (q' + 1) (sI i, B, L) = fX6_placeGroups_i6 fu (sI (opn ch m)) (fX6_placeGroups_h6 fu (sI (opn ch m)) q') (sI i) B L := rfl
      rw [un]
      obtain ⟨b1, b2, b3, b4, bt, b5, b6, b7⟩ := g3 i (by omega)
      have hci : ch i < m := by have := ht i (by omega); have := tgt_le (ch := ch) (i := i) (fun j hj => ht j (by omega)); omega
      unfold fX6_placeGroups_i6
      rw [h3 61 13 (by omega) (by omega) (by omega), g1, if_neg (by rw [sI_le (by omega) (by omega)]; omega)]
      simp only [mlet]
      have n92 : B 92 i = sI (g i) := by rw [h3 92 i (by omega) (by omega) (by omega)]; exact b1
      have n93 : B 93 i = sI (ch i) := by rw [h3 93 i (by omega) (by omega) (by omega)]; exact h93 i (by omega)
      have n11 : B 61 11 = sI F0 := by rw [h3 61 11 (by omega) (by omega) (by omega)]; exact hF
      have n63 : B 63 (g i) = sI bt := by rw [h3 63 _ (by omega) (by omega) (by omega)]; exact b5
      rw [sI_nn (show i < 2000000000 by omega), n92]
      simp only [mck_s (show i < 40 by omega) (show i < 2000000000 by omega), mck_s b2 (show g i < 2000000000 by omega), sI_nn (show g i < 2000000000 by omega)]
      rw [n11, n93, sI_add]
      have m93 : ∀ x z, mset (mset B 71 (g i) x) 72 (g i) z 93 i = sI (ch i) := fun x z => by rw [mset_n (by omega), mset_n (by omega)]; exact n93
      have k93 : ∀ x, mset B 71 (g i) x 93 i = sI (ch i) := fun x => by rw [mset_n (by omega)]; exact n93
      rw [k93, m93]
      simp only [mck_s (show ch i < 40 by omega) (show ch i < 2000000000 by omega), sI_nn (show ch i < 2000000000 by omega)]
      rw [mset_n (show ¬ (94 = 71 ∧ ch i = g i) by omega), h1 (ch i) hci, c_octetsOf (A := mset (mset B 71 (g i) (sI (F0 + ch i))) 72 (g i) (sI (fil ch sz i (ch i)))) b2 (by rw [mset_n (by omega), mset_n (by omega)]; exact n63) b6, mb3_s]
      rw [mset_n (show ¬ (94 = 72 ∧ ch i = g i) by omega), mset_n (show ¬ (94 = 71 ∧ ch i = g i) by omega), h1 (ch i) hci, ← b7, sI_add, sI_1]
      refine ih (i + 1) q' _ (by omega) (by omega) ?_ ?_ ?_ ?_
      · intro x hx
        show _ = sI (fil ch sz i x + if ch i = x then sz i else 0)
        by_cases e : ch i = x
        · rw [if_pos e, ← e, mset_s]
        · rw [if_neg e, mset_n (by omega), mset_n (by omega), mset_n (by omega), h1 x hx, Nat.add_zero]
      · intro j hj
        by_cases e : j = i
        · subst e
          rw [mset_n (by omega), mset_n (by omega), mset_s, mset_n (by omega), mset_s]
          exact ⟨rfl, rfl⟩
        · have ne : g j ≠ g i := fun w => e (hi j i (by omega) (by omega) w)
          rw [mset_n (by omega), mset_n (by omega), mset_n (by omega), mset_n (by omega), mset_n (by omega), mset_n (by omega)]
          exact h2 j (by omega)
      · intro a y q1 q2 q4
        rw [mset_n (by omega), mset_n (by omega), mset_n (by omega)]
        exact h3 a y q1 q2 q4
      · intro y hy
        have ne := hy i (by omega)
        rw [mset_n (by omega), mset_n (by omega), mset_n (by omega), mset_n (by omega), mset_n (by omega), mset_n (by omega)]
        exact h4 y hy
  exact puts m 0 fu A1 (by omega) (by omega) (fun x hx => by rw [z1 x hx]; rfl) (fun j hj => by omega) (fun a y _ _ q => f1 a y q) (fun y hy => ⟨f1 71 y (by omega), f1 72 y (by omega)⟩)
theorem c_packGroups {fu m F0 room : Nat} {g sz : Nat → Nat} {A : mwM} {L : mwL} (hfu : 50 ≤ fu) (hm : 0 < m) (hroom : room ≤ 8) (hr : ∀ j, j < m → sz j ≤ room) (hG : GpC A m g sz) (hi : ∀ i j, i < m → j < m → g i = g j → i = j) (hF : A 61 11 = sI F0) (h40 : F0 + m ≤ 40) : ∃ ch A', DX6_packGroups fu (sI room) A L = some (A', L) ∧ PkW sz room m ch ∧ PgC A A' m F0 g sz ch := by
  have hm40 := hG.2.1
  have fin : ∀ ch B, PkW sz room m ch → FtC A B → (∀ j, j < m → B 93 j = sI (ch j)) → ∃ A', fX6_packGroups_b23 fu (sI room) (sI (opn ch m)) B L = some (A', L) ∧ PkW sz room m ch ∧ PgC A A' m F0 g sz ch := by
    intro ch B hw hFt h93
    have ht : tgt ch m := fun j hj => (PkW_way hm hr hw j hj).1
    have hop := tgt_le ht
    obtain ⟨A', k1, k2⟩ := c_placeGroups (L := L) hfu hm (GpC_f hG hFt) hi h93 ht (by rw [hFt 61 11 (by omega) (by omega)]; exact hF) (by omega)
    unfold fX6_packGroups_b23
    rw [k1, mb2_s]
    obtain ⟨p1, p2, p3, p4, p5⟩ := k2
    refine ⟨A', rfl, hw, p1, p2, fun f f1 f2 => ?_, fun a y q1 q2 q3 q4 q5 q6 => ?_, fun y hy => ?_⟩
    · obtain ⟨o1, o2, o3, o4, o5, o6⟩ := p3 f f1 f2
      have r1 : ∀ a, a = 68 ∨ a = 66 ∨ a = 70 → B a (g 0) = A a (g 0) := fun a ha => hFt a _ (by omega) (by omega)
      exact ⟨by rw [o1]; exact r1 68 (by omega), by rw [o2]; exact r1 66 (by omega), by rw [o3]; exact r1 70 (by omega), by rw [o4]; exact r1 66 (by omega), o5, o6⟩
    · rw [p4 a y q1 q2 q3 q4 q5 q6, hFt a y q3 q4]
    · obtain ⟨w1, w2⟩ := p5 y hy
      rw [w1, w2, hFt _ _ (by omega) (by omega), hFt _ _ (by omega) (by omega)]
      exact ⟨rfl, rfl⟩
  unfold DX6_packGroups
  rw [hG.1]
  by_cases c : 7 < m
  · rw [if_pos (by rw [sI_llt (by decide) (by omega)]; exact c)]
    obtain ⟨ch, B, k1, k2, k3, k4⟩ := c_packFirstFit (L := L) hfu c hroom hG
    rw [k1, mb3_s]
    obtain ⟨A', e⟩ := fin ch B k2 k3 k4
    exact ⟨ch, A', e⟩
  · rw [if_neg (by rw [sI_llt (by decide) (by omega)]; exact c)]
    obtain ⟨ch, B, k1, k2, k3, k4⟩ := c_packBest (L := L) hfu hm (by omega) hroom hr hG
    rw [k1, mb3_s]
    obtain ⟨A', e⟩ := fin ch B k2 k3 k4
    exact ⟨ch, A', e⟩
/-! in their order: the greatest ones first, of one size by their numbers -/
abbrev befo (zs : Nat → Nat) (x y : Nat) : Prop := zs y < zs x ∨ (zs x = zs y ∧ x < y)
def Srt (P : Nat → Bool) (zs : Nat → Nat) (S m : Nat) (g : Nat → Nat) : Prop := (∀ j, j < m → g j < S ∧ P (g j) = true) ∧ (∀ s, s < S → P s = true → ∃ j, j < m ∧ g j = s) ∧ ∀ i j, i < j → j < m → befo zs (g i) (g j)
theorem Srt_u1 {P : Nat → Bool} {zs : Nat → Nat} {S m m' : Nat} {g g' : Nat → Nat} (h : Srt P zs S m g) (h' : Srt P zs S m' g') : m ≤ m' ∧ ∀ j, j < m → g j = g' j := by
  have all : ∀ i, i ≤ m → i ≤ m' ∧ ∀ j, j < i → g j = g' j := by
    intro i
    induction i with
    | zero => intro _; exact ⟨Nat.zero_le _, fun j hj => by omega⟩
    | succ i ih =>
      intro hi
      obtain ⟨e1, e2⟩ := ih (by omega)
      obtain ⟨p1, p2⟩ := h.1 i (by omega)
      obtain ⟨k, k1, k2⟩ := h'.2.1 (g i) p1 p2
      have hk : i ≤ k := by
        apply Nat.le_of_not_lt
        intro q
        have a := h.2.2 k i q (by omega)
        have b := e2 k q
        rw [b, k2] at a
        rcases a with a | a <;> omega
      have e3 : g i = g' i := by
        obtain ⟨q1, q2⟩ := h'.1 i (by omega)
        obtain ⟨l, l1, l2⟩ := h.2.1 (g' i) q1 q2
        by_cases ek : k = i
        · rw [← k2, ek]
        · have a := h'.2.2 i k (by omega) k1
          have hl : i ≤ l := by
            apply Nat.le_of_not_lt
            intro q
            have b := h'.2.2 l i q (by omega)
            have c := e2 l q
            rw [← c, l2] at b
            rcases b with b | b <;> omega
          by_cases el : l = i
          · rw [← l2, el]
          · have b := h.2.2 i l (by omega) l1
            rw [l2] at b
            rw [k2] at a
            rcases a with a | a <;> rcases b with b | b <;> omega
      refine ⟨by omega, fun j hj => ?_⟩
      by_cases ej : j = i
      · rw [ej]; exact e3
      · exact e2 j (by omega)
  exact all m (Nat.le_refl _)
theorem Srt_u {P : Nat → Bool} {zs : Nat → Nat} {S m m' : Nat} {g g' : Nat → Nat} (h : Srt P zs S m g) (h' : Srt P zs S m' g') : m = m' ∧ ∀ j, j < m → g j = g' j := by
  obtain ⟨a, b⟩ := Srt_u1 h h'
  obtain ⟨c, d⟩ := Srt_u1 h' h
  exact ⟨by omega, b⟩
theorem Srt_inj {P : Nat → Bool} {zs : Nat → Nat} {S m : Nat} {g : Nat → Nat} (h : Srt P zs S m g) : ∀ i j, i < m → j < m → g i = g j → i = j := by
  intro i j hi hj e
  have t : ∀ x y, x < y → y < m → g x ≠ g y := by
    intro x y h1 h2 e
    have := h.2.2 x y h1 h2
    rw [e] at this
    rcases this with q | q <;> omega
  rcases Nat.lt_trichotomy i j with q | q | q
  · exact absurd e (t i j q hj)
  · exact q
  · exact absurd e.symm (t j i q hi)
/-- one more that doesn't count -/
theorem Srt_skip {P : Nat → Bool} {zs : Nat → Nat} {s m : Nat} {g : Nat → Nat} (h : Srt P zs s m g) (hp : P s = false) : Srt P zs (s + 1) m g := by
  refine ⟨fun j hj => ⟨by have := (h.1 j hj).1; omega, (h.1 j hj).2⟩, fun x hx px => ?_, h.2.2⟩
  by_cases e : x = s
  · subst e; rw [hp] at px; cases px
  · exact h.2.1 x (by omega) px
/-- one more, put at its place -/
def ins (g : Nat → Nat) (at_ s : Nat) : Nat → Nat := fun j => if j < at_ then g j else if j = at_ then s else g (j - 1)
theorem Srt_ins {P : Nat → Bool} {zs : Nat → Nat} {s m at_ : Nat} {g : Nat → Nat} (h : Srt P zs s m g) (hp : P s = true) (ha : at_ ≤ m) (h1 : ∀ j, j < at_ → zs s ≤ zs (g j)) (h2 : ∀ j, at_ ≤ j → j < m → zs (g j) < zs s) : Srt P zs (s + 1) (m + 1) (ins g at_ s) := by
  refine ⟨fun j hj => ?_, fun x hx px => ?_, fun i j hij hj => ?_⟩
  · unfold ins
    by_cases c : j < at_
    · rw [if_pos c]; have := h.1 j (by omega); exact ⟨by omega, this.2⟩
    · rw [if_neg c]
      by_cases c2 : j = at_
      · rw [if_pos c2]; exact ⟨by omega, hp⟩
      · rw [if_neg c2]; have := h.1 (j - 1) (by omega); exact ⟨by omega, this.2⟩
  · by_cases e : x = s
    · refine ⟨at_, by omega, ?_⟩
      unfold ins
      rw [if_neg (by omega), if_pos rfl, e]
    · obtain ⟨j, j1, j2⟩ := h.2.1 x (by omega) px
      by_cases c : j < at_
      · refine ⟨j, by omega, ?_⟩
        unfold ins
        rw [if_pos c, j2]
      · refine ⟨j + 1, by omega, ?_⟩
        unfold ins
        rw [if_neg (by omega), if_neg (by omega), Nat.add_sub_cancel, j2]
  · unfold ins
    by_cases c : j < at_
    · rw [if_pos (by omega), if_pos c]; exact h.2.2 i j hij (by omega)
    · by_cases c2 : j = at_
      · rw [if_pos (by omega), if_neg c, if_pos c2]
        have a := h1 i (by omega)
        have b := (h.1 i (by omega)).1
        by_cases q : zs s < zs (g i)
        · exact Or.inl q
        · exact Or.inr ⟨by omega, b⟩
      · rw [if_neg c, if_neg c2]
        by_cases d : i < at_
        · rw [if_pos d]; exact h.2.2 i (j - 1) (by omega) (by omega)
        · rw [if_neg d]
          by_cases d2 : i = at_
          · rw [if_pos d2]; exact Or.inl (h2 (j - 1) (by omega) (by omega))
          · rw [if_neg d2]; exact h.2.2 (i - 1) (j - 1) (by omega) (by omega)
/-! the class: which signals go together -/
abbrev SgC (A : mwM) (S : Nat) (bt pe co ky : Nat → Nat) : Prop := A 61 10 = sI S ∧ S ≤ 40 ∧ ∀ s, s < S → A 63 s = sI (bt s) ∧ 1 ≤ bt s ∧ bt s ≤ 64 ∧ A 66 s = sI (pe s) ∧ 500 ≤ pe s ∧ pe s ≤ 20000 ∧ A 68 s = sI (co s) ∧ co s < 6 ∧ A 70 s = sI (ky s) ∧ ky s ≤ 16
def isO (co ky : Nat → Nat) (c : Nat) (lk : Bool) (s : Nat) : Bool := decide (co s = c) && (decide (ky s ≠ 0) == lk)
theorem c_isOf {fu S s c : Nat} {lk : Bool} {bt pe co ky : Nat → Nat} {A : mwM} {L : mwL} (hS : SgC A S bt pe co ky) (hs : s < S) (hc : c < 6) : DX6_isOf fu (sI s) (sI c) (bI lk) A L = some (bI (isO co ky c lk s), A, L) := by
  obtain ⟨h1, h2, h3⟩ := hS
  obtain ⟨a1, a2, a3, a4, a5, a6, a7, a8, a9, a10⟩ := h3 s hs
  unfold DX6_isOf
  rw [mck_s (by omega) (by omega), mck_s (by omega) (by omega), sI_nn (by omega), a7, a9]
  unfold fX6_isOf_b29 fX6_isOf_b37 fX6_isOf_b38 isO
  by_cases e : co s = c
  · rw [if_pos (by rw [e]), decide_eq_true e, Bool.true_and]
    by_cases k : ky s = 0
    · rw [if_pos (by rw [k]; rfl), decide_eq_false (fun w => w k)]
      cases lk
      · rfl
      · rfl
    · rw [if_neg (by rw [sI_eql (by omega) (by decide)]; exact k), decide_eq_true k]
      cases lk
      · rfl
      · rfl
  · rw [if_neg (by rw [sI_eq (by omega) (by omega)]; exact e), decide_eq_false e, Bool.false_and]
    rfl
/-- the next period -/
def Nxp (P : Nat → Bool) (pe : Nat → Nat) (S last r : Nat) : Prop := ((∀ s, s < S → P s = true → pe s ≤ last) ∧ r = 1000000) ∨ ((∃ s, s < S ∧ P s = true ∧ pe s = r) ∧ last < r ∧ ∀ s, s < S → P s = true → last < pe s → r ≤ pe s)
theorem c_nextPeriod {fu S c last : Nat} {lk : Bool} {bt pe co ky : Nat → Nat} {A : mwM} {L : mwL} (hfu : 50 ≤ fu) (hS : SgC A S bt pe co ky) (hc : c < 6) (hl : last ≤ 20000) : ∃ r, r ≤ 1000000 ∧ DX6_nextPeriod fu (sI c) (bI lk) (sI last) A L = some (sI r, A, L) ∧ Nxp (isO co ky c lk) pe S last r := by
  obtain ⟨h1, h2, h3⟩ := hS
  unfold DX6_nextPeriod
  have key : ∀ (n s q r : Nat), s + n = S → n < q → r ≤ 1000000 → Nxp (isO co ky c lk) pe s last r → ∃ r', r' ≤ 1000000 ∧ fX6_nextPeriod_h7 fu (sI c) (bI lk) (sI last) q (sI r, sI s, A, L) = some (sI r', A, L) ∧ Nxp (isO co ky c lk) pe S last r' := by
    intro n
    induction n with
    | zero =>
      intro s q r hs hq hr hN
      obtain ⟨q', rfl⟩ : ∃ x, q = x + 1 := ⟨q - 1, by omega⟩
      have : s = S := by omega
      subst this
      refine ⟨r, hr, ?_, hN⟩
      show fX6_nextPeriod_i7 fu (sI c) (bI lk) (sI last) (fX6_nextPeriod_h7 fu (sI c) (bI lk) (sI last) q') (sI r) (sI s) A L = _
      unfold fX6_nextPeriod_i7
      rw [h1, if_pos (by rw [sI_le (by omega) (by omega)]; omega)]
    | succ n ih =>
      intro s q r hs hq hr hN
      obtain ⟨q', rfl⟩ : ∃ x, q = x + 1 := ⟨q - 1, by omega⟩
      obtain ⟨a1, a2, a3, a4, a5, a6, a7, a8, a9, a10⟩ := h3 s (by omega)
      have un : fX6_nextPeriod_h7 fu (sI c) (bI lk) (sI last) (q' + 1) (sI r, sI s, A, L) = fX6_nextPeriod_i7 fu (sI c) (bI lk) (sI last) (fX6_nextPeriod_h7 fu (sI c) (bI lk) (sI last) q') (sI r) (sI s) A L := rfl
      rw [un]
      unfold fX6_nextPeriod_i7 fX6_nextPeriod_b56
      rw [h1, if_neg (by rw [sI_le (by omega) (by omega)]; omega), c_isOf ⟨h1, h2, h3⟩ (by omega) hc, mb3_s]
      simp only [mlet]
      rw [mck_s (by omega) (by omega), mck_s (by omega) (by omega), sI_nn (by omega), a4, sI_1]
      have skip : (isO co ky c lk s = false ∨ pe s ≤ last) → Nxp (isO co ky c lk) pe (s + 1) last r := by
        intro w
        rcases hN with ⟨n1, n2⟩ | ⟨⟨x, x1, x2, x3⟩, n2, n3⟩
        · refine Or.inl ⟨fun x hx px => ?_, n2⟩
          by_cases e : x = s
          · subst e
            rcases w with w | w
            · rw [w] at px; cases px
            · exact w
          · exact n1 x (by omega) px
        · refine Or.inr ⟨⟨x, by omega, x2, x3⟩, n2, fun y hy py ly => ?_⟩
          by_cases e : y = s
          · subst e
            rcases w with w | w
            · rw [w] at py; cases py
            · omega
          · exact n3 y (by omega) py ly
      cases hb : isO co ky c lk s with
      | false =>
        rw [bI_f, if_pos (show (0 : Int32) = 0 from rfl)]
        exact ih (s + 1) q' r (by omega) (by omega) hr (skip (Or.inl hb))
      | true =>
        rw [bI_t, if_neg (by decide)]
        by_cases c2 : pe s ≤ last
        · rw [if_pos (by rw [sI_le (by omega) (by omega)]; exact c2)]
          exact ih (s + 1) q' r (by omega) (by omega) hr (skip (Or.inr c2))
        · rw [if_neg (by rw [sI_le (by omega) (by omega)]; exact c2)]
          by_cases c3 : pe s < r
          · rw [if_pos (by rw [sI_lt (by omega) (by omega)]; exact c3)]
            refine ih (s + 1) q' (pe s) (by omega) (by omega) (by omega) (Or.inr ⟨⟨s, by omega, hb, rfl⟩, by omega, fun y hy py ly => ?_⟩)
            by_cases e : y = s
            · subst e; exact Nat.le_refl _
            · rcases hN with ⟨n1, n2⟩ | ⟨_, n2, n3⟩
              · have := n1 y (by omega) py; omega
              · have := n3 y (by omega) py ly; omega
          · rw [if_neg (by rw [sI_lt (by omega) (by omega)]; exact c3)]
            refine ih (s + 1) q' r (by omega) (by omega) hr ?_
            rcases hN with ⟨n1, n2⟩ | ⟨⟨x, x1, x2, x3⟩, n2, n3⟩
            · omega
            · refine Or.inr ⟨⟨x, by omega, x2, x3⟩, n2, fun y hy py ly => ?_⟩
              by_cases e : y = s
              · subst e; omega
              · exact n3 y (by omega) py ly
  exact key S 0 fu 1000000 (by omega) (by omega) (Nat.le_refl _) (Or.inl ⟨fun s hs => by omega, rfl⟩)
abbrev ocs (bt : Nat → Nat) (s : Nat) : Nat := (bt s + 7) / 8
theorem SgC_f {A A' : mwM} {S : Nat} {bt pe co ky : Nat → Nat} (h : SgC A S bt pe co ky) (hf : ∀ a y, a = 63 ∨ a = 66 ∨ a = 68 ∨ a = 70 ∨ (a = 61 ∧ y = 10) → A' a y = A a y) : SgC A' S bt pe co ky := by
  obtain ⟨h1, h2, h3⟩ := h
  refine ⟨by rw [hf _ _ (by omega)]; exact h1, h2, fun s hs => ?_⟩
  obtain ⟨a1, a2, a3, a4, a5, a6, a7, a8, a9, a10⟩ := h3 s hs
  exact ⟨by rw [hf _ _ (by omega)]; exact a1, a2, a3, by rw [hf _ _ (by omega)]; exact a4, a5, a6, by rw [hf _ _ (by omega)]; exact a7, a8, by rw [hf _ _ (by omega)]; exact a9, a10⟩
theorem Srt_le {P : Nat → Bool} {zs : Nat → Nat} : ∀ (S m : Nat) (g : Nat → Nat), Srt P zs S m g → m ≤ S := by
  intro S
  induction S with
  | zero =>
    intro m g h
    apply Nat.le_of_not_lt
    intro q
    have := (h.1 0 (by omega)).1
    omega
  | succ S ih =>
    intro m g h
    by_cases e : ∃ j, j < m ∧ g j = S
    · obtain ⟨j, j1, j2⟩ := e
      have inj := Srt_inj h
      have h2 : Srt P zs S (m - 1) (fun x => if x < j then g x else g (x + 1)) := by
        have ne : ∀ x, x < m → x ≠ j → g x < S := by
          intro x hx hn
          have a := (h.1 x hx).1
          have b : g x ≠ S := fun w => hn (inj x j hx j1 (by rw [w, j2]))
          omega
        refine ⟨fun x hx => ?_, fun s hs ps => ?_, fun x y hxy hy => ?_⟩
        · dsimp only
          by_cases c : x < j
          · rw [if_pos c]; exact ⟨ne x (by omega) (by omega), (h.1 x (by omega)).2⟩
          · rw [if_neg c]; exact ⟨ne (x + 1) (by omega) (by omega), (h.1 (x + 1) (by omega)).2⟩
        · obtain ⟨k, k1, k2⟩ := h.2.1 s (by omega) ps
          have : k ≠ j := fun w => by rw [w, j2] at k2; omega
          by_cases c : k < j
          · exact ⟨k, by omega, by dsimp only; rw [if_pos c, k2]⟩
          · refine ⟨k - 1, by omega, ?_⟩
            dsimp only
            rw [if_neg (by omega), show k - 1 + 1 = k from by omega, k2]
        · dsimp only
          by_cases c : y < j
          · rw [if_pos (by omega), if_pos c]; exact h.2.2 x y hxy (by omega)
          · rw [if_neg c]
            by_cases d : x < j
            · rw [if_pos d]; exact h.2.2 x (y + 1) (by omega) (by omega)
            · rw [if_neg d]; exact h.2.2 (x + 1) (y + 1) (by omega) (by omega)
      have := ih _ _ h2
      omega
    · have h2 : Srt P zs S m g := by
        refine ⟨fun x hx => ?_, fun s hs ps => h.2.1 s (by omega) ps, h.2.2⟩
        have a := h.1 x hx
        have b : g x ≠ S := fun w => e ⟨x, hx, w⟩
        exact ⟨by omega, a.2⟩
      have := ih _ _ h2
      omega
/-- the class: the groups of one period, in their order -/
theorem c_collectGroups {fu S c p : Nat} {lk : Bool} {bt pe co ky : Nat → Nat} {A : mwM} {L : mwL} (hfu : 50 ≤ fu) (hS : SgC A S bt pe co ky) (hc : c < 6) (hp : p ≤ 20000) : ∃ m g A', DX6_collectGroups fu (sI c) (bI lk) (sI p) A L = some (A', L) ∧ Srt (fun s => isO co ky c lk s && decide (pe s = p)) (ocs bt) S m g ∧ A' 61 13 = sI m ∧ (∀ j, j < m → A' 92 j = sI (g j)) ∧ ∀ a y, a ≠ 92 → ¬ (a = 61 ∧ y = 13) → A' a y = A a y := by
  obtain ⟨h1, h2, h3⟩ := hS
  unfold DX6_collectGroups
  simp only [mlet]
  have key : ∀ (n s q m : Nat) (g : Nat → Nat) (B : mwM), s + n = S → n < q → Srt (fun s => isO co ky c lk s && decide (pe s = p)) (ocs bt) s m g → B 61 13 = sI m → (∀ j, j < m → B 92 j = sI (g j)) → (∀ a y, a ≠ 92 → ¬ (a = 61 ∧ y = 13) → B a y = A a y) → ∃ m g A', fX6_collectGroups_h8 fu (sI c) (bI lk) (sI p) q (sI s, B, L) = some (A', L) ∧ Srt (fun s => isO co ky c lk s && decide (pe s = p)) (ocs bt) S m g ∧ A' 61 13 = sI m ∧ (∀ j, j < m → A' 92 j = sI (g j)) ∧ ∀ a y, a ≠ 92 → ¬ (a = 61 ∧ y = 13) → A' a y = A a y := by
    intro n
    induction n with
    | zero =>
      intro s q m g B hs hq hT k1 k2 k3
      obtain ⟨q', rfl⟩ : ∃ x, q = x + 1 := ⟨q - 1, by omega⟩
      have : s = S := by omega
      subst this
      refine ⟨m, g, B, ?_, hT, k1, k2, k3⟩
      show fX6_collectGroups_i8 fu (sI c) (bI lk) (sI p) (fX6_collectGroups_h8 fu (sI c) (bI lk) (sI p) q') (sI s) B L = _
      unfold fX6_collectGroups_i8
      rw [k3 61 10 (by omega) (by omega), h1, if_pos (by rw [sI_le (by omega) (by omega)]; omega)]
    | succ n ih =>
      intro s q m g B hs hq hT k1 k2 k3
      obtain ⟨q', rfl⟩ : ∃ x, q = x + 1 := ⟨q - 1, by omega⟩
      have hSB : SgC B S bt pe co ky := SgC_f ⟨h1, h2, h3⟩ (fun a y w => k3 a y (by omega) (by omega))
      obtain ⟨b1, b2, b3⟩ := hSB
      obtain ⟨a1, a2, a3, a4, a5, a6, a7, a8, a9, a10⟩ := b3 s (by omega)
      have hm := Srt_le _ _ _ hT
      have un : fX6_collectGroups_h8 fu (sI c) (bI lk) (sI p) (q' + 1) (sI s, B, L) = fX6_collectGroups_i8 fu (sI c) (bI lk) (sI p) (fX6_collectGroups_h8 fu (sI c) (bI lk) (sI p) q') (sI s) B L := rfl
      rw [un]
      unfold fX6_collectGroups_i8
      rw [b1, if_neg (by rw [sI_le (by omega) (by omega)]; omega), c_isOf ⟨b1, b2, b3⟩ (by omega) hc, mb3_s, mck_s (by omega) (by omega), sI_nn (by omega), a4]
      simp only [mlet]
      have skip : (isO co ky c lk s && decide (pe s = p)) = false → ∃ m g A', fX6_collectGroups_b115 fu (sI c) (bI lk) (sI p) (fX6_collectGroups_h8 fu (sI c) (bI lk) (sI p) q') (sI s) B L = some (A', L) ∧ Srt (fun s => isO co ky c lk s && decide (pe s = p)) (ocs bt) S m g ∧ A' 61 13 = sI m ∧ (∀ j, j < m → A' 92 j = sI (g j)) ∧ ∀ a y, a ≠ 92 → ¬ (a = 61 ∧ y = 13) → A' a y = A a y := by
        intro w
        unfold fX6_collectGroups_b115
        simp only [mlet]
        rw [sI_1]
        exact ih (s + 1) q' m g B (by omega) (by omega) (Srt_skip hT w) k1 k2 k3
      cases hb : isO co ky c lk s with
      | false =>
        rw [bI_f, if_pos (show (0 : Int32) = 0 from rfl)]
        exact skip (by rw [hb]; rfl)
      | true =>
        rw [bI_t, if_neg (by decide)]
        by_cases cp : pe s = p
        · rw [if_pos (by rw [cp]), k1]
          have hps : (fun s => isO co ky c lk s && decide (pe s = p)) s = true := by
            show (isO co ky c lk s && decide (pe s = p)) = true
            rw [hb, decide_eq_true cp]; rfl
          -- to its place
          have inner : ∀ (at_ r : Nat) (C : mwM), at_ ≤ m → at_ < r → (∀ j, j < at_ → C 92 j = sI (g j)) → (∀ j, at_ ≤ j → j < m → C 92 (j + 1) = sI (g j)) → (∀ j, at_ ≤ j → j < m → ocs bt (g j) < ocs bt s) → (∀ a y, a ≠ 92 → C a y = B a y) → ∃ m g A', fX6_collectGroups_h47 fu (sI c) (bI lk) (sI p) (fX6_collectGroups_h8 fu (sI c) (bI lk) (sI p) q') r (sI s, sI at_, C, L) = some (A', L) ∧ Srt (fun s => isO co ky c lk s && decide (pe s = p)) (ocs bt) S m g ∧ A' 61 13 = sI m ∧ (∀ j, j < m → A' 92 j = sI (g j)) ∧ ∀ a y, a ≠ 92 → ¬ (a = 61 ∧ y = 13) → A' a y = A a y := by
            intro at_
            have stop : ∀ (at_ : Nat) (C : mwM), at_ ≤ m → (∀ j, j < at_ → C 92 j = sI (g j)) → (∀ j, at_ ≤ j → j < m → C 92 (j + 1) = sI (g j)) → (∀ j, j < at_ → ocs bt s ≤ ocs bt (g j)) → (∀ j, at_ ≤ j → j < m → ocs bt (g j) < ocs bt s) → (∀ a y, a ≠ 92 → C a y = B a y) → ∃ m g A', fX6_collectGroups_b96 fu (sI c) (bI lk) (sI p) (fX6_collectGroups_h8 fu (sI c) (bI lk) (sI p) q') (sI s) (sI at_) C L = some (A', L) ∧ Srt (fun s => isO co ky c lk s && decide (pe s = p)) (ocs bt) S m g ∧ A' 61 13 = sI m ∧ (∀ j, j < m → A' 92 j = sI (g j)) ∧ ∀ a y, a ≠ 92 → ¬ (a = 61 ∧ y = 13) → A' a y = A a y := by
              intro at_ C ha c1 c2 c3 c4 c5
              unfold fX6_collectGroups_b96 fX6_collectGroups_b115
              rw [mck_s (by omega) (by omega), sI_nn (by omega)]
              simp only [mlet]
              rw [mset_n (show ¬ (61 = 92 ∧ 13 = at_) by omega), c5 61 13 (by omega), k1, sI_1, sI_1]
              refine ih (s + 1) q' (m + 1) (ins g at_ s) _ (by omega) (by omega) (Srt_ins hT hps ha c3 c4) (by rw [mset_s]) (fun j hj => ?_) (fun a y w1 w2 => ?_)
              · rw [mset_n (by omega)]
                unfold ins
                by_cases q1 : j < at_
                · rw [if_pos q1, mset_n (by omega)]; exact c1 j q1
                · rw [if_neg q1]
                  by_cases q2 : j = at_
                  · rw [if_pos q2, q2, mset_s]
                  · rw [if_neg q2, mset_n (by omega)]
                    have := c2 (j - 1) (by omega) (by omega)
                    rw [show j - 1 + 1 = j from by omega] at this
                    exact this
              · rw [mset_n (by omega), mset_n (by omega), c5 a y w1]
                exact k3 a y w1 w2
            induction at_ with
            | zero =>
              intro r C ha hr c1 c2 c4 c5
              obtain ⟨r', rfl⟩ : ∃ x, r = x + 1 := ⟨r - 1, by omega⟩
              have un2 : fX6_collectGroups_h47 fu (sI c) (bI lk) (sI p) (fX6_collectGroups_h8 fu (sI c) (bI lk) (sI p) q') (r' + 1) (sI s, sI 0, C, L) = fX6_collectGroups_i47 fu (sI c) (bI lk) (sI p) (fX6_collectGroups_h8 fu (sI c) (bI lk) (sI p) q') (fX6_collectGroups_h47 fu (sI c) (bI lk) (sI p) (fX6_collectGroups_h8 fu (sI c) (bI lk) (sI p) q') r') (sI s) (sI 0) C L := rfl
              rw [un2]
              unfold fX6_collectGroups_i47
              rw [if_pos (by decide)]
              exact stop 0 C ha c1 c2 (fun j hj => by omega) c4 c5
            | succ at_ iha =>
              intro r C ha hr c1 c2 c4 c5
              obtain ⟨r', rfl⟩ : ∃ x, r = x + 1 := ⟨r - 1, by omega⟩
              have un2 : fX6_collectGroups_h47 fu (sI c) (bI lk) (sI p) (fX6_collectGroups_h8 fu (sI c) (bI lk) (sI p) q') (r' + 1) (sI s, sI (at_ + 1), C, L) = fX6_collectGroups_i47 fu (sI c) (bI lk) (sI p) (fX6_collectGroups_h8 fu (sI c) (bI lk) (sI p) q') (fX6_collectGroups_h47 fu (sI c) (bI lk) (sI p) (fX6_collectGroups_h8 fu (sI c) (bI lk) (sI p) q') r') (sI s) (sI (at_ + 1)) C L := rfl
              rw [un2]
              unfold fX6_collectGroups_i47
              obtain ⟨t1, t2⟩ := hT.1 at_ (by omega)
              obtain ⟨d1, d2, d3, _⟩ := b3 (g at_) (by omega)
              have e63 : ∀ x, C 63 x = B 63 x := fun x => c5 63 x (by omega)
              rw [if_neg (by rw [sI_lel (by omega) (by decide)]; omega), sI_m1, mck_s (by omega) (by omega), sI_nn (by omega), c1 at_ (by omega), c_octetsOf (show g at_ < 40 by omega) (by rw [e63]; exact d1) d3, mb3_s, c_octetsOf (show s < 40 by omega) (by rw [e63]; exact a1) a3, mb3_s]
              by_cases q1 : ocs bt s ≤ ocs bt (g at_)
              · rw [if_pos (by rw [sI_le (by omega) (by omega)]; exact q1)]
                refine stop (at_ + 1) C ha c1 c2 (fun j hj => ?_) c4 c5
                by_cases e : j = at_
                · rw [e]; exact q1
                · have := hT.2.2 j at_ (by omega) (by omega)
                  rcases this with w | w
                  · omega
                  · omega
              · rw [if_neg (by rw [sI_le (by omega) (by omega)]; exact q1), mck_s (by omega) (by omega), mck_s (by omega) (by omega), sI_nn (by omega), c1 at_ (by omega)]
                simp only [mlet]
                rw [sI_pm]
                refine iha r' (mset C 92 (at_ + 1) (sI (g at_))) (by omega) (by omega) (fun j hj => ?_) (fun j j1 j2 => ?_) (fun j j1 j2 => ?_) (fun a y w => by rw [mset_n (by omega)]; exact c5 a y w)
                · rw [mset_n (by omega)]; exact c1 j (by omega)
                · by_cases e : j = at_
                  · rw [e, mset_s]
                  · rw [mset_n (by omega)]; exact c2 j (by omega) j2
                · by_cases e : j = at_
                  · rw [e]; omega
                  · exact c4 j (by omega) j2
          exact inner m fu B (Nat.le_refl _) (by omega) k2 (fun j j1 j2 => by omega) (fun j j1 j2 => by omega) (fun _ _ _ => rfl)
        · rw [if_neg (by rw [sI_eq (by omega) (by omega)]; exact cp)]
          exact skip (by rw [hb, decide_eq_false cp]; rfl)
  refine key S 0 fu 0 (fun _ => 0) _ (by omega) (by omega) ⟨fun j hj => by omega, fun s hs => by omega, fun i j _ hj => by omega⟩ (by rw [mset_s]; rfl) (fun j hj => by omega) (fun a y w1 w2 => by rw [mset_n (by omega)])
/-! THE REFERENCE'S PACK: what is asked of it while it packs -/
def ex1 (p : Nat → Bool) : Nat → Bool
  | 0 => false
  | n + 1 => ex1 p n || p (n + 1)
theorem ex1_t {p : Nat → Bool} {n : Nat} : ex1 p n = true ↔ ∃ l, 1 ≤ l ∧ l ≤ n ∧ p l = true := by
  induction n with
  | zero => exact ⟨fun h => (by cases h), fun ⟨l, h1, h2, _⟩ => by omega⟩
  | succ n ih =>
    show (ex1 p n || p (n + 1)) = true ↔ _
    rw [Bool.or_eq_true, ih]
    constructor
    · rintro (⟨l, h1, h2, h3⟩ | h)
      · exact ⟨l, h1, by omega, h3⟩
      · exact ⟨n + 1, by omega, by omega, h⟩
    · rintro ⟨l, h1, h2, h3⟩
      by_cases e : l = n + 1
      · subst e; exact Or.inr h3
      · exact Or.inl ⟨l, h1, by omega, h3⟩
theorem ex1_f {p : Nat → Bool} {n : Nat} : ex1 p n = false ↔ ∀ l, 1 ≤ l → l ≤ n → p l = false := by
  constructor
  · intro h l h1 h2
    cases hp : p l with
    | false => rfl
    | true => rw [ex1_t.mpr ⟨l, h1, h2, hp⟩] at h; cases h
  · intro h
    cases hp : ex1 p n with
    | false => rfl
    | true =>
      obtain ⟨l, h1, h2, h3⟩ := ex1_t.mp hp
      rw [h l h1 h2] at h3; cases h3
abbrev PvM (M : mwM) (k n cap : Nat) (pl zl fr oc : Nat → Nat) : Prop := M k 1 = sI cap ∧ M k 2 = sI n ∧ n ≤ 40 ∧ cap ≤ 8 ∧ ∀ l, 1 ≤ l → l ≤ n → M (k + 5) l = sI l ∧ M (k + 2) l = sI (pl l) ∧ pl l ≤ 20000 ∧ M (k + 22) l = sI (zl l) ∧ 1 ≤ zl l ∧ zl l ≤ 8 ∧ M (k + 16) l = sI (fr l) ∧ fr l ≤ 64 ∧ M (k + 17) l = sI (oc l) ∧ oc l ≤ 8
theorem m_isGroup {fu k l : Nat} {M : mwM} {L : mwL} (h : M (k + 5) l = sI l) (hl : l < 129) : DX16_isGroup fu k (sI l) M L = some (1, M, L) := by
  unfold DX16_isGroup fX16_isGroup_b15
  rw [mck_s hl (by omega), sI_nn (by omega), h, if_pos rfl]
  rfl
theorem m_isUsed {fu k n cap f : Nat} {pl zl fr oc : Nat → Nat} {M : mwM} {L : mwL} (hfu : 50 ≤ fu) (h : PvM M k n cap pl zl fr oc) (hf : f ≤ 64) : DX16_isUsed fu k (sI f) M L = some (bI (ex1 (fun l => decide (fr l = f)) n), M, L) := by
  obtain ⟨h1, h2, h3, h4, h5⟩ := h
  unfold DX16_isUsed
  have key : ∀ (r l q : Nat), l + r = n → r < q → fX16_isUsed_h4 fu k (sI f) q (bI (ex1 (fun l => decide (fr l = f)) l), sI (l + 1), M, L) = some (bI (ex1 (fun l => decide (fr l = f)) n), M, L) := by
    intro r
    induction r with
    | zero =>
      intro l q hl hq
      obtain ⟨q', rfl⟩ : ∃ x, q = x + 1 := ⟨q - 1, by omega⟩
      have : l = n := by omega
      subst this
      show fX16_isUsed_i4 fu k (sI f) (fX16_isUsed_h4 fu k (sI f) q') (bI (ex1 (fun l => decide (fr l = f)) l)) (sI (l + 1)) M L = _
      unfold fX16_isUsed_i4
      rw [h2, if_pos (by rw [sI_lt (by omega) (by omega)]; omega)]
      unfold mzz
      rw [if_pos bI_z]
    | succ r ih =>
      intro l q hl hq
      obtain ⟨q', rfl⟩ : ∃ x, q = x + 1 := ⟨q - 1, by omega⟩
      obtain ⟨a1, a2, a3, a4, a5, a6, a7, a8, a9, a10⟩ := h5 (l + 1) (by omega) (by omega)
      show fX16_isUsed_i4 fu k (sI f) (fX16_isUsed_h4 fu k (sI f) q') (bI (ex1 (fun l => decide (fr l = f)) l)) (sI (l + 1)) M L = _
      unfold fX16_isUsed_i4 fX16_isUsed_b34 fX16_isUsed_b38 fX16_isUsed_b39
      rw [h2, if_neg (by rw [sI_lt (by omega) (by omega)]; omega), m_isGroup a1 (by omega), mb3_s, if_neg (show ¬ (1 : Int32) = 0 by decide), mck_s (by omega) (by omega), sI_nn (by omega), a7]
      simp only [mlet]
      rw [sI_1]
      have nx := ih (l + 1) q' (by omega) (by omega)
      have e : ex1 (fun l => decide (fr l = f)) (l + 1) = (ex1 (fun l => decide (fr l = f)) l || decide (fr (l + 1) = f)) := rfl
      rw [e] at nx
      cases hb : ex1 (fun l => decide (fr l = f)) l with
      | true =>
        rw [hb, Bool.true_or] at nx
        rw [bI_t, if_neg (show ¬ (1 : Int32) = 0 by decide)]
        exact nx
      | false =>
        rw [hb, Bool.false_or] at nx
        rw [bI_f, if_pos (show (0 : Int32) = 0 from rfl)]
        by_cases c : fr (l + 1) = f
        · rw [if_pos (by rw [c])]
          rw [decide_eq_true c] at nx
          exact nx
        · rw [if_neg (by rw [sI_eq (by omega) (by omega)]; exact c)]
          rw [decide_eq_false c] at nx
          exact nx
  exact key n 0 fu (by omega) (by omega)
theorem m_hasOther {fu k n cap f p : Nat} {pl zl fr oc : Nat → Nat} {M : mwM} {L : mwL} (hfu : 50 ≤ fu) (h : PvM M k n cap pl zl fr oc) (hf : f ≤ 64) (hp : p ≤ 20000) : DX16_hasOther fu k (sI f) (sI p) M L = some (bI (ex1 (fun l => decide (fr l = f ∧ pl l ≠ p)) n), M, L) := by
  obtain ⟨h1, h2, h3, h4, h5⟩ := h
  unfold DX16_hasOther
  have key : ∀ (r l q : Nat), l + r = n → r < q → fX16_hasOther_h5 fu k (sI f) (sI p) q (bI (ex1 (fun l => decide (fr l = f ∧ pl l ≠ p)) l), sI (l + 1), M, L) = some (bI (ex1 (fun l => decide (fr l = f ∧ pl l ≠ p)) n), M, L) := by
    intro r
    induction r with
    | zero =>
      intro l q hl hq
      obtain ⟨q', rfl⟩ : ∃ x, q = x + 1 := ⟨q - 1, by omega⟩
      have : l = n := by omega
      subst this
      show fX16_hasOther_i5 fu k (sI f) (sI p) (fX16_hasOther_h5 fu k (sI f) (sI p) q') (bI (ex1 (fun l => decide (fr l = f ∧ pl l ≠ p)) l)) (sI (l + 1)) M L = _
      unfold fX16_hasOther_i5
      rw [h2, if_pos (by rw [sI_lt (by omega) (by omega)]; omega)]
      unfold mzz
      rw [if_pos bI_z]
    | succ r ih =>
      intro l q hl hq
      obtain ⟨q', rfl⟩ : ∃ x, q = x + 1 := ⟨q - 1, by omega⟩
      obtain ⟨a1, a2, a3, a4, a5, a6, a7, a8, a9, a10⟩ := h5 (l + 1) (by omega) (by omega)
      show fX16_hasOther_i5 fu k (sI f) (sI p) (fX16_hasOther_h5 fu k (sI f) (sI p) q') (bI (ex1 (fun l => decide (fr l = f ∧ pl l ≠ p)) l)) (sI (l + 1)) M L = _
      unfold fX16_hasOther_i5 fX16_hasOther_b49 fX16_hasOther_b53 fX16_hasOther_b54
      rw [h2, if_neg (by rw [sI_lt (by omega) (by omega)]; omega), m_isGroup a1 (by omega), mb3_s, if_neg (show ¬ (1 : Int32) = 0 by decide), mck_s (by omega) (by omega), mck_s (by omega) (by omega), sI_nn (by omega), a7, a2]
      simp only [mlet]
      rw [sI_1]
      have nx := ih (l + 1) q' (by omega) (by omega)
      have e : ex1 (fun l => decide (fr l = f ∧ pl l ≠ p)) (l + 1) = (ex1 (fun l => decide (fr l = f ∧ pl l ≠ p)) l || decide (fr (l + 1) = f ∧ pl (l + 1) ≠ p)) := rfl
      rw [e] at nx
      cases hb : ex1 (fun l => decide (fr l = f ∧ pl l ≠ p)) l with
      | true =>
        rw [hb, Bool.true_or] at nx
        rw [bI_t, if_neg (show ¬ (1 : Int32) = 0 by decide)]
        exact nx
      | false =>
        rw [hb, Bool.false_or] at nx
        rw [bI_f, if_pos (show (0 : Int32) = 0 from rfl)]
        by_cases c : fr (l + 1) = f
        · rw [if_pos (by rw [c])]
          by_cases d : pl (l + 1) = p
          · rw [if_pos (by rw [d])]
            rw [decide_eq_false (fun w => w.2 d)] at nx
            exact nx
          · rw [if_neg (by rw [sI_eq (by omega) (by omega)]; exact d)]
            rw [decide_eq_true ⟨c, d⟩] at nx
            exact nx
        · rw [if_neg (by rw [sI_eq (by omega) (by omega)]; exact c)]
          rw [decide_eq_false (fun w => c w.1)] at nx
          exact nx
  exact key n 0 fu (by omega) (by omega)
def frP (fr oc zl : Nat → Nat) (f x nd : Nat) (l : Nat) : Bool := decide (fr l = f ∧ x < oc l + zl l ∧ oc l < x + nd)
theorem m_isFree {fu k n cap f x nd : Nat} {pl zl fr oc : Nat → Nat} {M : mwM} {L : mwL} (hfu : 50 ≤ fu) (h : PvM M k n cap pl zl fr oc) (hf : f ≤ 64) (hx : x ≤ 100) (hnd : nd ≤ 100) : DX16_isFree fu k (sI f) (sI x) (sI nd) M L = some (bI (decide (x + nd ≤ cap) && !ex1 (frP fr oc zl f x nd) n), M, L) := by
  obtain ⟨h1, h2, h3, h4, h5⟩ := h
  have z : ∀ (b : Bool), fX16_isFree_b99 fu k (sI f) (sI x) (sI nd) (bI b) M L = some (bI b, M, L) := by
    intro b
    unfold fX16_isFree_b99 mzz
    rw [if_pos bI_z]
  have key : ∀ (r l q : Nat), l + r = n → r < q → ex1 (frP fr oc zl f x nd) l = false → fX16_isFree_h20 fu k (sI f) (sI x) (sI nd) q (bI true, sI (l + 1), M, L) = some (bI (!ex1 (frP fr oc zl f x nd) n), M, L) := by
    intro r
    induction r with
    | zero =>
      intro l q hl hq hb
      obtain ⟨q', rfl⟩ : ∃ x, q = x + 1 := ⟨q - 1, by omega⟩
      have : l = n := by omega
      subst this
      show fX16_isFree_i20 fu k (sI f) (sI x) (sI nd) (fX16_isFree_h20 fu k (sI f) (sI x) (sI nd) q') (bI true) (sI (l + 1)) M L = _
      unfold fX16_isFree_i20
      rw [h2, if_pos (by rw [sI_lt (by omega) (by omega)]; omega), z, hb]
      rfl
    | succ r ih =>
      intro l q hl hq hb
      obtain ⟨q', rfl⟩ : ∃ x, q = x + 1 := ⟨q - 1, by omega⟩
      obtain ⟨a1, a2, a3, a4, a5, a6, a7, a8, a9, a10⟩ := h5 (l + 1) (by omega) (by omega)
      show fX16_isFree_i20 fu k (sI f) (sI x) (sI nd) (fX16_isFree_h20 fu k (sI f) (sI x) (sI nd) q') (bI true) (sI (l + 1)) M L = _
      have go : frP fr oc zl f x nd (l + 1) = false → fX16_isFree_b86 fu k (sI f) (sI x) (sI nd) (fX16_isFree_h20 fu k (sI f) (sI x) (sI nd) q') (sI (l + 1)) M L = some (bI (!ex1 (frP fr oc zl f x nd) n), M, L) := by
        intro w
        unfold fX16_isFree_b86 fX16_isFree_b91
        simp only [mlet]
        rw [sI_1]
        refine ih (l + 1) q' (by omega) (by omega) ?_
        show (ex1 (frP fr oc zl f x nd) l || frP fr oc zl f x nd (l + 1)) = false
        rw [hb, w]; rfl
      unfold fX16_isFree_i20
      rw [h2, if_neg (by rw [sI_lt (by omega) (by omega)]; omega), bI_t, if_neg (show ¬ (1 : Int32) = 0 by decide), m_isGroup a1 (by omega), mb3_s, if_neg (show ¬ (1 : Int32) = 0 by decide), mck_s (by omega) (by omega), mck_s (by omega) (by omega), mck_s (by omega) (by omega), mck_s (by omega) (by omega), sI_nn (by omega), a7, a9, a4, sI_add, sI_add]
      by_cases c : fr (l + 1) = f
      · rw [if_pos (by rw [c])]
        by_cases d : oc (l + 1) + zl (l + 1) ≤ x
        · rw [if_pos (by rw [sI_le (by omega) (by omega)]; exact d)]
          exact go (decide_eq_false (fun w => by omega))
        · rw [if_neg (by rw [sI_le (by omega) (by omega)]; exact d)]
          by_cases e : oc (l + 1) < x + nd
          · rw [if_pos (by rw [sI_lt (by omega) (by omega)]; exact e)]
            have ht : ex1 (frP fr oc zl f x nd) n = true := ex1_t.mpr ⟨l + 1, by omega, by omega, decide_eq_true ⟨c, by omega, e⟩⟩
            rw [ht]
            unfold fX16_isFree_b91
            simp only [mlet]
            rw [sI_1]
            obtain ⟨q2, rfl⟩ : ∃ x, q' = x + 1 := ⟨q' - 1, by omega⟩
            show fX16_isFree_i20 fu k (sI f) (sI x) (sI nd) (fX16_isFree_h20 fu k (sI f) (sI x) (sI nd) q2) (bI false) (sI (l + 1 + 1)) M L = _
            unfold fX16_isFree_i20
            rw [z, bI_f, if_pos (show (0 : Int32) = 0 from rfl)]
            split <;> rfl
          · rw [if_neg (by rw [sI_lt (by omega) (by omega)]; exact e)]
            exact go (decide_eq_false (fun w => e w.2.2))
      · rw [if_neg (by rw [sI_eq (by omega) (by omega)]; exact c)]
        exact go (decide_eq_false (fun w => c w.1))
  unfold DX16_isFree fX16_isFree_b15
  rw [h1, sI_add]
  by_cases c : x + nd ≤ cap
  · rw [if_neg (by rw [sI_lt (by omega) (by omega)]; omega), decide_eq_true c, Bool.true_and]
    exact key n 0 fu (by omega) (by omega) rfl
  · rw [if_pos (by rw [sI_lt (by omega) (by omega)]; omega), decide_eq_false c, Bool.false_and]
    obtain ⟨g, rfl⟩ : ∃ x, fu = x + 1 := ⟨fu - 1, by omega⟩
    show fX16_isFree_i20 (g + 1) k (sI f) (sI x) (sI nd) (fX16_isFree_h20 (g + 1) k (sI f) (sI x) (sI nd) g) (bI false) (sI 1) M L = _
    unfold fX16_isFree_i20
    rw [z, bI_f, if_pos (show (0 : Int32) = 0 from rfl)]
    split <;> rfl
/-- frame f holds octets 0 to fill - 1, without a gap -/
def Cov (fr oc zl : Nat → Nat) (n f fill : Nat) : Prop := (∀ l, 1 ≤ l → l ≤ n → fr l = f → oc l + zl l ≤ fill) ∧ ∀ x, x < fill → ∃ l, 1 ≤ l ∧ l ≤ n ∧ fr l = f ∧ oc l ≤ x ∧ x < oc l + zl l
theorem m_room {fu k n cap f nd fill : Nat} {pl zl fr oc : Nat → Nat} {M : mwM} {L : mwL} (hfu : 50 ≤ fu) (h : PvM M k n cap pl zl fr oc) (hf : f ≤ 64) (hn1 : 1 ≤ nd) (hnd : nd ≤ 8) (hfl : fill ≤ 8) (hc : Cov fr oc zl n f fill) : DX16_room fu k (sI f) (sI nd) M L = some (if fill + nd ≤ cap then sI fill else -1, M, L) := by
  have hP := h
  obtain ⟨h1, h2, h3, h4, h5⟩ := h
  obtain ⟨c1, c2⟩ := hc
  have nn1 : ¬ (-1 : Int32) = 0 := by decide
  -- where a place is asked for
  have free : ∀ e, e ≤ fill → DX16_isFree fu k (sI f) (sI e) (sI nd) M L = some (bI (decide (e = fill ∧ fill + nd ≤ cap)), M, L) := by
    intro e he
    rw [m_isFree hfu hP hf (by omega) (by omega)]
    congr 2
    by_cases q : e = fill
    · subst q
      have : ex1 (frP fr oc zl f e nd) n = false := ex1_f.mpr (fun l l1 l2 => decide_eq_false (fun w => by have := c1 l l1 l2 w.1; omega))
      rw [this]
      by_cases r : e + nd ≤ cap
      · rw [decide_eq_true r, decide_eq_true (⟨rfl, r⟩ : e = e ∧ e + nd ≤ cap)]; rfl
      · rw [decide_eq_false r, decide_eq_false (fun w => r w.2)]; rfl
    · obtain ⟨l, l1, l2, l3, l4, l5⟩ := c2 e (by omega)
      have : ex1 (frP fr oc zl f e nd) n = true := ex1_t.mpr ⟨l, l1, l2, decide_eq_true ⟨l3, l5, by omega⟩⟩
      have d0 : decide (e = fill ∧ fill + nd ≤ cap) = false := decide_eq_false (fun w => q w.1)
      rw [this, d0]
      cases decide (e + nd ≤ cap) <;> rfl
  have loop : ∀ (r l q : Nat) (v : Int32), l + r = n → r < q → (v = -1 ∧ (fill + nd ≤ cap → ∀ x, 1 ≤ x → x ≤ l → fr x = f → oc x + zl x ≠ fill) ∨ v = sI fill ∧ fill + nd ≤ cap ∧ 0 < fill) → (fill = 0 → v = -1 → cap < nd) → fX16_room_h19 fu k (sI f) (sI nd) q (v, sI (l + 1), M, L) = some (if fill + nd ≤ cap then sI fill else -1, M, L) := by
    intro r
    induction r with
    | zero =>
      intro l q v hl hq hv h0
      obtain ⟨q', rfl⟩ : ∃ x, q = x + 1 := ⟨q - 1, by omega⟩
      have : l = n := by omega
      subst this
      show fX16_room_i19 fu k (sI f) (sI nd) (fX16_room_h19 fu k (sI f) (sI nd) q') v (sI (l + 1)) M L = _
      unfold fX16_room_i19 fX16_room_b103
      rw [h2, if_pos (by rw [sI_lt (by omega) (by omega)]; omega)]
      rcases hv with ⟨v1, v2⟩ | ⟨v1, v2, v3⟩
      · rw [if_neg (by
          intro w
          by_cases z : fill = 0
          · have := h0 z v1; omega
          · obtain ⟨x, x1, x2, x3, x4, x5⟩ := c2 (fill - 1) (by omega)
            have a := c1 x x1 x2 x3
            exact v2 w x x1 x2 x3 (by omega)), v1]
      · rw [if_pos v2, v1]
    | succ r ih =>
      intro l q v hl hq hv h0
      obtain ⟨q', rfl⟩ : ∃ x, q = x + 1 := ⟨q - 1, by omega⟩
      obtain ⟨a1, a2, a3, a4, a5, a6, a7, a8, a9, a10⟩ := h5 (l + 1) (by omega) (by omega)
      show fX16_room_i19 fu k (sI f) (sI nd) (fX16_room_h19 fu k (sI f) (sI nd) q') v (sI (l + 1)) M L = _
      have hv0 : ¬ v = 0 := by
        rcases hv with ⟨v1, v2⟩ | ⟨v1, v2, v3⟩
        · rw [v1]; exact nn1
        · rw [v1, sI_eql (by omega) (by decide)]; omega
      have go : ∀ w : Int32, (w = -1 ∧ (fill + nd ≤ cap → ∀ x, 1 ≤ x → x ≤ l + 1 → fr x = f → oc x + zl x ≠ fill) ∨ w = sI fill ∧ fill + nd ≤ cap ∧ 0 < fill) → (fill = 0 → w = -1 → cap < nd) → fX16_room_b97 fu k (sI f) (sI nd) (fX16_room_h19 fu k (sI f) (sI nd) q') w (sI (l + 1)) M L = some (if fill + nd ≤ cap then sI fill else -1, M, L) := by
        intro w hw hw0
        unfold fX16_room_b97
        simp only [mlet]
        rw [sI_1]
        exact ih (l + 1) q' w (by omega) (by omega) hw hw0
      unfold fX16_room_i19
      rw [h2, if_neg (by rw [sI_lt (by omega) (by omega)]; omega), if_neg hv0, m_isGroup a1 (by omega), mb3_s, if_neg (show ¬ (1 : Int32) = 0 by decide), mck_s (by omega) (by omega), mck_s (by omega) (by omega), mck_s (by omega) (by omega), sI_nn (by omega), a7, a9, a4, sI_add]
      simp only [mlet]
      by_cases c : fr (l + 1) = f
      · have ce := c1 (l + 1) (by omega) (by omega) c
        rw [if_pos (by rw [c]), free _ ce, mb3_s]
        unfold fX16_room_b95 fX16_room_b90 fX16_room_b96
        by_cases d : oc (l + 1) + zl (l + 1) = fill ∧ fill + nd ≤ cap
        · rw [decide_eq_true d, bI_t, if_neg (show ¬ (1 : Int32) = 0 by decide), d.1]
          rcases hv with ⟨v1, v2⟩ | ⟨v1, v2, v3⟩
          · rw [v1, if_pos (by decide)]
            exact go (sI fill) (Or.inr ⟨rfl, d.2, by omega⟩) (fun z => by omega)
          · rw [v1, if_neg (by rw [sI_ltl (by omega) (by decide)]; omega), if_pos (by rw [sI_le (by omega) (by omega)]; omega)]
            exact go (sI fill) (Or.inr ⟨rfl, v2, v3⟩) (fun z => by omega)
        · rw [decide_eq_false d, bI_f, if_pos (show (0 : Int32) = 0 from rfl)]
          refine go v ?_ h0
          rcases hv with ⟨v1, v2⟩ | ⟨v1, v2, v3⟩
          · refine Or.inl ⟨v1, fun w x x1 x2 x3 => ?_⟩
            by_cases e : x = l + 1
            · subst e; exact fun z => d ⟨z, w⟩
            · exact v2 w x x1 (by omega) x3
          · exact Or.inr ⟨v1, v2, v3⟩
      · rw [if_neg (by rw [sI_eq (by omega) (by omega)]; exact c)]
        refine go v ?_ h0
        rcases hv with ⟨v1, v2⟩ | ⟨v1, v2, v3⟩
        · refine Or.inl ⟨v1, fun w x x1 x2 x3 => ?_⟩
          by_cases e : x = l + 1
          · subst e; exact absurd x3 c
          · exact v2 w x x1 (by omega) x3
        · exact Or.inr ⟨v1, v2, v3⟩
  have f0 := free 0 (by omega)
  have e0 : sI 0 = 0 := rfl
  rw [e0] at f0
  unfold DX16_room fX16_room_b15
  rw [f0, mb3_s]
  by_cases z : fill = 0
  · subst z
    by_cases w : 0 + nd ≤ cap
    · rw [decide_eq_true (⟨rfl, w⟩ : 0 = 0 ∧ 0 + nd ≤ cap), bI_t, if_neg (show ¬ (1 : Int32) = 0 by decide), if_pos w]
      obtain ⟨g, rfl⟩ : ∃ x, fu = x + 1 := ⟨fu - 1, by omega⟩
      show fX16_room_i19 (g + 1) k (sI f) (sI nd) (fX16_room_h19 (g + 1) k (sI f) (sI nd) g) 0 (sI 1) M L = _
      unfold fX16_room_i19 fX16_room_b103
      rw [if_pos (show (0 : Int32) = 0 from rfl)]
      split <;> rfl
    · rw [decide_eq_false (fun q => w q.2), bI_f, if_pos (show (0 : Int32) = 0 from rfl)]
      exact loop n 0 fu (-1) (by omega) (by omega) (Or.inl ⟨rfl, fun q => absurd q w⟩) (fun _ _ => by omega)
  · rw [decide_eq_false (fun q => z q.1.symm), bI_f, if_pos (show (0 : Int32) = 0 from rfl)]
    exact loop n 0 fu (-1) (by omega) (by omega) (Or.inl ⟨rfl, fun _ x x1 x2 => by omega⟩) (fun q => absurd q z)
theorem m_newFrame {fu k n cap F : Nat} {pl zl fr oc : Nat → Nat} {M : mwM} {L : mwL} (hfu : 70 ≤ fu) (h : PvM M k n cap pl zl fr oc) (h1 : 1 ≤ F) (hF : F ≤ 64) (hu : ∀ f, 1 ≤ f → f < F → ∃ l, 1 ≤ l ∧ l ≤ n ∧ fr l = f) (hn : ∀ l, 1 ≤ l → l ≤ n → fr l ≠ F) : DX16_newFrame fu k M L = some (sI F, M, L) := by
  unfold DX16_newFrame
  have key : ∀ (r f q : Nat), f + r = F → r < q → 1 ≤ f → fX16_newFrame_h2 fu k q (sI f, M, L) = some (sI F, M, L) := by
    intro r
    induction r with
    | zero =>
      intro f q hf hq h0
      obtain ⟨q', rfl⟩ : ∃ x, q = x + 1 := ⟨q - 1, by omega⟩
      have : f = F := by omega
      subst this
      show fX16_newFrame_i2 fu k (fX16_newFrame_h2 fu k q') (sI f) M L = _
      unfold fX16_newFrame_i2 fX16_newFrame_b22
      have e : ex1 (fun l => decide (fr l = f)) n = false := ex1_f.mpr (fun l l1 l2 => decide_eq_false (hn l l1 l2))
      rw [if_neg (by rw [sI_lle (by decide) (by omega)]; omega), m_isUsed (by omega) h hF, mb3_s, e, bI_f, if_pos (show (0 : Int32) = 0 from rfl)]
    | succ r ih =>
      intro f q hf hq h0
      obtain ⟨q', rfl⟩ : ∃ x, q = x + 1 := ⟨q - 1, by omega⟩
      show fX16_newFrame_i2 fu k (fX16_newFrame_h2 fu k q') (sI f) M L = _
      unfold fX16_newFrame_i2
      obtain ⟨l, l1, l2, l3⟩ := hu f h0 (by omega)
      have e : ex1 (fun l => decide (fr l = f)) n = true := ex1_t.mpr ⟨l, l1, l2, decide_eq_true l3⟩
      rw [if_neg (by rw [sI_lle (by decide) (by omega)]; omega), m_isUsed (by omega) h (by omega), mb3_s, e, bI_t, if_neg (show ¬ (1 : Int32) = 0 by decide)]
      simp only [mlet]
      rw [sI_1]
      exact ih (f + 1) q' (by omega) (by omega) (by omega)
  exact key (F - 1) 1 fu (by omega) (by omega) (by omega)
