/-! one bit on the bus: also while all sleep -/
def slM (M M' : mwM) : Prop := ∀ a y, ¬ (a = 821 ∧ (y = 34 ∨ y = 48)) → a ≠ 848 → a ≠ 851 → a ≠ 836 → M' a y = M a y
theorem slM_t {A B C : mwM} (h1 : slM A B) (h2 : slM B C) : slM A C := fun a y u1 u2 u3 u4 => (h2 a y u1 u2 u3 u4).trans (h1 a y u1 u2 u3 u4)
theorem m_sl_put {fu F n : Nat} {ow id dn : Nat → Nat} {oc : Nat → Nat → Nat} {M : mwM} {L : mwL} (hfu : 1300 ≤ fu) (hn : n < 7) (hM : FrM M F ow id oc dn) (hC : CA M) (hf : fsF ow id oc dn n F = 0) (h831 : M 831 n = sI 0) : ∃ M', DX12_puts fu (sI n) M L = some (1, M', L) ∧ slM M M' ∧ CA M' := by
  unfold DX12_puts fX12_puts_b23
  rw [mck_s (by omega) (by omega), sI_nn (by omega), h831, if_pos (show sI 0 = 0 from rfl)]
  obtain ⟨⟨r, M1, L1⟩, e1, y1, y2, y3, y4⟩ := m_first (fu := fu) (L := L) (by omega) hn hM
  dsimp only at y1 y2 y3 y4
  rw [hf] at y1
  rw [y1, y2] at e1
  rw [e1, mb3_s, if_pos (show fI 0 = -1 from rfl)]
  exact ⟨M1, rfl, fun a y u1 u2 u3 _ => y3 a y u1 u2 u3, y4 hC⟩
theorem m_sl_see {fu F n : Nat} {ow id dn : Nat → Nat} {oc : Nat → Nat → Nat} {M : mwM} {L : mwL} (hfu : 1300 ≤ fu) (hn : n < 7) (hM : FrM M F ow id oc dn) (hC : CA M) (hf : fsF ow id oc dn n F = 0) (h831 : M 831 n = sI 0) : ∃ M', DX12_sees fu (sI n) 1 M L = some (M', L) ∧ slM M M' ∧ CA M' := by
  unfold DX12_sees
  rw [mck_s (by omega) (by omega), sI_nn (by omega), h831, if_pos (show sI 0 = 0 from rfl), mck_s (by omega) (by omega)]
  simp only [mlet]
  obtain ⟨⟨r, M1, L1⟩, e1, y1, y2, y3, y4⟩ := m_first (fu := fu) (M := mset M 836 n 0) (L := L) (by omega) hn (FrM_fr hM (fun a y u => by simp (disch := omega) only [mset_n]))
  dsimp only at y1 y2 y3 y4
  rw [hf] at y1
  rw [y1, y2] at e1
  rw [e1, mb3_s, if_pos (show fI 0 = -1 from rfl)]
  refine ⟨M1, if_pos True.intro, fun a y u1 u2 u3 u4 => ?_, y4 (CA_fr hC (fun a y u => by simp (disch := omega) only [mset_n]))⟩
  rw [y3 a y u1 u2 u3, mset_n (by omega)]
theorem m_sl {fu N t F : Nat} {v2 : Int32} {ow id dn : Nat → Nat} {oc : Nat → Nat → Nat} {M : mwM} {L : mwL} (hfu : 1300 ≤ fu) (hN : N ≤ 7) (ht : t < 20000) (h1 : M 821 1 = sI N) (h2 : M 821 2 = sI t) (hM : FrM M F ow id oc dn) (hC : CA M) (hq : ∀ n, n < N → fsF ow id oc dn n F = 0 ∧ M 831 n = sI 0 ∧ M 838 (20000 * n + t) = sI 0) : ∃ M' x, fX12_run_h56 fu 1 (fX12_run_h45 fu 1 (fu - 1)) fu (v2, 0, 1, 0, M, L) = some (x, mset M' 821 2 (sI (t + 1)), L) ∧ slM (mset M 822 t 1) M' ∧ CA M' := by
  -- all see
  have sees : ∀ (m n g : Nat) (X : mwM), n + m = N → m < g → slM (mset M 822 t 1) X → CA X → ∃ M' x, fX12_run_h103 fu 1 (fX12_run_h45 fu 1 (fu - 1)) g (v2, 0, 1, sI n, X, L) = some (x, mset M' 821 2 (sI (t + 1)), L) ∧ slM (mset M 822 t 1) M' ∧ CA M' := by
    intro m
    induction m with
    | zero =>
      intro n g X hn hg hX hCX
      obtain ⟨g', rfl⟩ : ∃ g', g = g' + 1 := ⟨g - 1, by omega⟩
      have nN : n = N := by omega
      subst nN
      unfold fX12_run_h103
      rw [mloop_S]
      refine ⟨X, X 821 11 - v2, ?_, hX, hCX⟩
      show fX12_run_i103 fu 1 _ _ v2 0 1 (sI n) X L = _
      unfold fX12_run_i103
      rw [hX 821 1 (by omega) (by omega) (by omega) (by omega), mset_n (by omega), h1, if_pos (by rw [sI_le (by omega) (by omega)]; omega), hX 821 2 (by omega) (by omega) (by omega) (by omega), mset_n (by omega), h2, sI_1]
      simp only [mlet]
      obtain ⟨q, hq'⟩ : ∃ q, fu - 1 = q + 1 := ⟨fu - 2, by omega⟩
      rw [hq']
      unfold fX12_run_h45
      rw [mloop_S]
      show fX12_run_i45 fu 1 _ v2 (0 + 1) (mset X 821 2 (sI (t + 1))) L = _
      unfold fX12_run_i45
      rw [if_pos (by decide), mset_n (by omega)]
    | succ m ih =>
      intro n g X hn hg hX hCX
      obtain ⟨g', rfl⟩ : ∃ g', g = g' + 1 := ⟨g - 1, by omega⟩
      obtain ⟨q1, q2, q3⟩ := hq n (by omega)
      obtain ⟨M1, e1, s1, c1⟩ := m_sl_see (fu := fu) (n := n) (M := X) (L := L) (F := F) (ow := ow) (id := id) (oc := oc) (dn := dn) hfu (by omega) (FrM_fr hM (fun a y u => by rw [hX a y (by omega) (by omega) (by omega) (by omega), mset_n (by omega)])) hCX q1 (by rw [hX 831 n (by omega) (by omega) (by omega) (by omega), mset_n (by omega)]; exact q2)
      obtain ⟨M', x, e2, s2, c2⟩ := ih (n + 1) g' M1 (by omega) (by omega) (slM_t hX s1) c1
      refine ⟨M', x, ?_, s2, c2⟩
      unfold fX12_run_h103
      rw [mloop_S]
      show fX12_run_i103 fu 1 (fX12_run_h45 fu 1 (fu - 1)) (fX12_run_h103 fu 1 (fX12_run_h45 fu 1 (fu - 1)) g') v2 0 1 (sI n) X L = _
      unfold fX12_run_i103 fX12_run_b143
      rw [hX 821 1 (by omega) (by omega) (by omega) (by omega), mset_n (by omega), h1, if_neg (by rw [sI_le (by omega) (by omega)]; omega), hX 821 2 (by omega) (by omega) (by omega) (by omega), mset_n (by omega), h2, sI_lml, sI_add, mck_s (by omega) (by omega), sI_nn (by omega), hX 838 _ (by omega) (by omega) (by omega) (by omega), mset_n (by omega), q3, if_pos (show sI 0 = 0 from rfl), e1, mb2_s]
      simp only [mlet]
      rw [sI_1]
      exact e2
  have puts : ∀ (m n g : Nat) (X : mwM), n + m = N → m < g → slM M X → CA X → ∃ M' x, fX12_run_h56 fu 1 (fX12_run_h45 fu 1 (fu - 1)) g (v2, 0, 1, sI n, X, L) = some (x, mset M' 821 2 (sI (t + 1)), L) ∧ slM (mset M 822 t 1) M' ∧ CA M' := by
    intro m
    induction m with
    | zero =>
      intro n g X hn hg hX hCX
      obtain ⟨g', rfl⟩ : ∃ g', g = g' + 1 := ⟨g - 1, by omega⟩
      have nN : n = N := by omega
      subst nN
      obtain ⟨M', x, e2, s2, c2⟩ := sees n 0 fu (mset X 822 t 1) (by omega) (by omega) (fun a y u1 u2 u3 u4 => by
        by_cases z : a = 822 ∧ y = t
        · rw [z.1, z.2, mset_s, mset_s]
        · rw [mset_n z, mset_n z]
          exact hX a y u1 u2 u3 u4) (CA_fr hCX (fun a y u => mset_n (by omega)))
      refine ⟨M', x, ?_, s2, c2⟩
      unfold fX12_run_h56
      rw [mloop_S]
      show fX12_run_i56 fu 1 _ _ v2 0 1 (sI n) X L = _
      unfold fX12_run_i56
      rw [hX 821 1 (by omega) (by omega) (by omega) (by omega), h1, if_pos (by rw [sI_le (by omega) (by omega)]; omega), hX 821 2 (by omega) (by omega) (by omega) (by omega), h2, mck_s ht (by omega), sI_nn (by omega), show vp_nar .byte (1 : Int32).toInt8.toInt32 = 1 by decide]
      simp only [mlet]
      exact e2
    | succ m ih =>
      intro n g X hn hg hX hCX
      obtain ⟨g', rfl⟩ : ∃ g', g = g' + 1 := ⟨g - 1, by omega⟩
      obtain ⟨q1, q2, q3⟩ := hq n (by omega)
      obtain ⟨M1, e1, s1, c1⟩ := m_sl_put (fu := fu) (n := n) (M := X) (L := L) (F := F) (ow := ow) (id := id) (oc := oc) (dn := dn) hfu (by omega) (FrM_fr hM (fun a y u => hX a y (by omega) (by omega) (by omega) (by omega))) hCX q1 (by rw [hX 831 n (by omega) (by omega) (by omega) (by omega)]; exact q2)
      obtain ⟨M', x, e2, s2, c2⟩ := ih (n + 1) g' M1 (by omega) (by omega) (slM_t hX s1) c1
      refine ⟨M', x, ?_, s2, c2⟩
      unfold fX12_run_h56
      rw [mloop_S]
      show fX12_run_i56 fu 1 (fX12_run_h45 fu 1 (fu - 1)) (fX12_run_h56 fu 1 (fX12_run_h45 fu 1 (fu - 1)) g') v2 0 1 (sI n) X L = _
      unfold fX12_run_i56 fX12_run_b80
      rw [hX 821 1 (by omega) (by omega) (by omega) (by omega), h1, if_neg (by rw [sI_le (by omega) (by omega)]; omega), e1, mb3_s, if_neg (show ¬ (1 : Int32) = 0 by decide)]
      simp only [mlet]
      rw [sI_1]
      exact e2
  exact puts N 0 fu M (by omega) (by omega) (fun _ _ _ _ _ _ => rfl) hC
theorem h45_1 {fu k : Nat} {v2 : Int32} {M : mwM} {L : mwL} : fX12_run_h45 fu 1 (k + 1) (v2, 0, M, L) = fX12_run_h56 fu 1 (fX12_run_h45 fu 1 k) fu (v2, 0, 1, 0, M, L) := by
  have e : fX12_run_h45 fu 1 (k + 1) (v2, 0, M, L) = fX12_run_i45 fu 1 (fX12_run_h45 fu 1 k) v2 0 M L := rfl
  rw [e]
  unfold fX12_run_i45
  rw [if_neg (show ¬ (1 : Int32) ≤ 0 by decide)]
theorem NdR_q {A M : mwM} {F : Nat} {ow id : Nat → Nat} {oc : Nat → Nat → Nat} {dn : Nat → Nat} {n t ecn tcn : Nat} (h : NdR A M F ow id oc dn n t ecn tcn) (h25 : A 25 n = sI 0) : M 831 n = sI 0 ∧ 8 * ecn ≤ t ∧ 40 * tcn ≤ t := by
  rcases h with ⟨h1, h2, h3, h4⟩ | ⟨f, K, f1, f2, f3, f4, _⟩ | ⟨s, K, k1, _⟩ | ⟨st, lf, g1, g2, g3, _⟩
  · exact ⟨h2, h3, h4⟩
  · rw [f4] at h25
    exact absurd h25 (by decide)
  · rw [k1] at h25
    exact absurd h25 (by decide)
  · rw [g3] at h25
    have := sI_inj (by omega) (by omega) h25
    omega
/-- the bus passes one bit -/
theorem st_bit {fu N t F : Nat} {ow id : Nat → Nat} {oc : Nat → Nat → Nat} {dn ec tc fl : Nat → Nat} {asl : Bool} {A M : mwM} {Lc Lm : mwL} (hfu : 1300 ≤ fu) (ht : t < 20000) (hB : BusR A M N t F ow id oc dn ec tc fl asl) : ∃ (A' M' : mwM) (x : Int32) (dn' ec' tc' : Nat → Nat) (asl' : Bool) (mk : Nat), DX0_passBit fu (sI t) A Lc = some (A', Lc) ∧ DX12_run fu 1 M Lm = some (x, M', Lm) ∧ BusR A' M' N (t + 1) F ow id oc dn' ec' tc' fl asl' ∧ mk < 128 ∧ FrE A' M' N tc tc' mk ∧ (∀ a y, ¬ (20 ≤ a ∧ a ≤ 60) → A' a y = A a y) ∧ (∀ a y, ¬ (821 ≤ a ∧ a ≤ 853) → M' a y = M a y) := by
  obtain ⟨hQ, hd, hO, hF, ⟨h13, has⟩, hbit⟩ := hB
  have hG := BuG_Q hQ ht
  have hG' := hG
  obtain ⟨g1, ⟨g2, g3, g4⟩, g5, g6, hW, hC, _, _, g14, _⟩ := hG'
  have g18 := hQ.2.2.2.2.2.2.2.2.2.2.2
  -- the reference's beginning
  have run : DX12_run fu 1 M Lm = fX12_run_h56 fu 1 (fX12_run_h45 fu 1 (fu - 1)) fu ((mset M 821 0 0) 821 11, 0, 1, 0, mset M 821 0 0, Lm) := by
    unfold DX12_run fX12_run_b26
    rw [if_pos (show (0 : Int32) ≤ 1 by decide), g4, show (20000 : Int32) - sI t = sI (20000 - t) from sI_sub (a := 20000) (by omega), if_pos (show (1 : Int32) ≤ sI (20000 - t) by rw [sI_lle (by decide) (by omega)]; omega)]
    simp only [mlet]
    rw [mset_s, if_pos (show (0 : Int32) ≤ 0 by decide)]
    have h := h45_1 (fu := fu) (k := fu - 1) (v2 := (mset M 821 0 0) 821 11) (M := mset M 821 0 0) (L := Lm)
    rw [show fu - 1 + 1 = fu by omega] at h
    exact h
  rw [run]
  unfold DX0_passBit fX0_passBit_b29
  simp only [mlet]
  rw [mck_s ht (by omega), sI_nn (by omega), mset_n (show ¬ (20 = 21 ∧ 13 = t) by omega), mset_n (show ¬ (20 = 20 ∧ 13 = 12) by omega), h13, mck_s ht (by omega), mset_n (show ¬ (22 = 21 ∧ t = t) by omega), mset_n (show ¬ (22 = 20 ∧ t = 12) by omega), (hF t ht).1, show vp_nar .byte 1 = sI 1 by decide]
  generalize hA1 : mset (mset A 20 12 0) 21 t (sI 1) = A1
  have fA : ∀ a y, ¬ (a = 20 ∧ y = 12) → ¬ (a = 21 ∧ y = t) → A1 a y = A a y := fun a y u1 u2 => by rw [← hA1, mset_n u2, mset_n u1]
  have v12 : A1 20 12 = sI 0 := by rw [← hA1, mset_n (by omega), mset_s]; rfl
  have v21 : A1 21 t = sI 1 := by rw [← hA1, mset_s]
  have fM : ∀ a y, ¬ (a = 821 ∧ y = 0) → mset M 821 0 0 a y = M a y := fun a y u => mset_n u
  have hO1 : OcA A1 := fun n hn => by
    obtain ⟨o, ho⟩ := hO n hn
    exact ⟨o, OcR_f ho (fun y => fA _ y (by omega) (by omega))⟩
  have hF1 : FlR A1 (mset M 821 0 0) fl := fun t' ht' => by
    obtain ⟨q1, q2, q3⟩ := hF t' ht'
    exact ⟨by rw [fA 22 t' (by omega) (by omega)]; exact q1, q2, fun k hk => by rw [fM 838 _ (by omega)]; exact q3 k hk⟩
  have hG1 : BuG A1 (mset M 821 0 0) N t F ow id oc dn ec tc := BuG_fr hG (fun a y u => fA a y (by omega) (by omega)) (fun a y u => fM a y (by omega)) (WC_fr hW (fun a y u => fM a y (by omega))) (CA_fr hC (fun a y u => fM a y (by omega)))
  by_cases slp : asl = true ∧ fl t = 0
  · -- all sleep
    obtain ⟨s1, s2⟩ := slp
    have hs := has s1
    rw [s1, if_neg (show ¬ bI true = 0 by decide), s2, if_pos (show sI 0 = 0 from rfl)]
    have hq : ∀ n, n < N → fsF ow id oc dn n F = 0 ∧ (mset M 821 0 0) 831 n = sI 0 ∧ (mset M 821 0 0) 838 (20000 * n + t) = sI 0 := fun n hn => by
      obtain ⟨z1, z2⟩ := hs n hn
      have cle := cnt_le (fun f => decide (ow f = n ∧ dn f = 0)) F
      have w := (g14 n (by omega)).1
      have hF2 := g5.2.1
      refine ⟨(fs_cnt F).mpr (sI_inj (by omega) (by omega) (w.symm.trans z2)), by rw [fM 831 n (by omega)]; exact (NdR_q (hd n hn) z1).1, ?_⟩
      rw [fM 838 _ (by omega), (hF t ht).2.2 n (by omega), s2, Nat.zero_div]
    obtain ⟨M', x, e1, m1, c1⟩ := m_sl (fu := fu) (v2 := (mset M 821 0 0) 821 11) (L := Lm) hfu g1.2.1 ht hG1.2.1.2.1 hG1.2.1.2.2 hG1.2.2.2.1 hG1.2.2.2.2.2.1 hq
    rw [e1]
    have fM' : ∀ a y, ¬ (a = 821 ∧ (y = 0 ∨ y = 34 ∨ y = 48)) → ¬ (a = 822 ∧ y = t) → a ≠ 848 → a ≠ 851 → a ≠ 836 → M' a y = M a y := fun a y u1 u2 u3 u4 u5 => by rw [m1 a y (by omega) u3 u4 u5, mset_n u2, fM a y (by omega)]
    have hG2 : BuG A1 M' N t F ow id oc dn ec tc := BuG_fr hG (fun a y u => fA a y (by omega) (by omega)) (fun a y u => fM' a y (by omega) (by omega) (by omega) (by omega) (by omega)) (WC_fr hW (fun a y u => fM' a y (by omega) (by omega) (by omega) (by omega) (by omega))) c1
    refine ⟨A1, _, x, dn, ec, tc, true, 0, rfl, rfl, ⟨BuQ_G hG2, fun n hn => ?_, hO1, fun t' ht' => ?_, ⟨by rw [fA 20 13 (by omega) (by omega), h13, s1], fun _ n hn => ?_⟩, fun i hi => ?_⟩, by omega, ⟨v12, fun n hn => Or.inr ⟨by rw [Nat.zero_div], rfl⟩⟩, fun a y u => fA a y (by omega) (by omega), fun a y u => ?_⟩
    · obtain ⟨z1, z2⟩ := hs n hn
      obtain ⟨z3, z4, z5⟩ := NdR_q (hd n hn) z1
      exact Or.inl ⟨by rw [fA 25 n (by omega) (by omega)]; exact z1, by rw [mset_n (by omega), fM' 831 n (by omega) (by omega) (by omega) (by omega) (by omega)]; exact z3, by omega, by omega⟩
    · obtain ⟨q1, q2, q3⟩ := hF t' ht'
      exact ⟨by rw [fA 22 t' (by omega) (by omega)]; exact q1, q2, fun k hk => by rw [mset_n (by omega), fM' 838 _ (by omega) (by omega) (by omega) (by omega) (by omega)]; exact q3 k hk⟩
    · rw [fA 25 n (by omega) (by omega), fA 30 n (by omega) (by omega)]
      exact hs n hn
    · rw [mset_n (by omega)]
      by_cases z : i = t
      · rw [z, v21, m1 822 t (by omega) (by omega) (by omega) (by omega), mset_s]
        rfl
      · rw [fA 21 i (by omega) (by omega), fM' 822 i (by omega) (by omega) (by omega) (by omega) (by omega)]
        exact hbit i (by omega)
    · rw [mset_n (by omega)]
      exact fM' a y (by omega) (by omega) (by omega) (by omega) (by omega)
  · -- awake
    have B0 : bitF A M A1 (mset M 821 0 0) := ⟨fun a y u => fA a y (by omega) (by omega), fun a y u => fM a y (by omega), fun a y u => fA a y (by omega) (by omega), fun a y u => fM a y (by omega), fun y u1 u2 u3 u4 => fA 20 y (by omega) (by omega)⟩
    obtain ⟨bb, hbb, A2, M2, x, dn', ec', tc', mk, asl', e1, e2, G2, N2, O2, m2, E2, a13, aa, B2, bi, b21, b22, _⟩ := all_put (v2 := (mset M 821 0 0) 821 11) (fl := fl) (A0 := A) (M0 := M) (Lc := Lc) (Lm := Lm) hfu g1.2.1 N 0 fu fu A1 (mset M 821 0 0) 1 (by omega) (by omega) (by omega) (by omega) hG1 (fun k u => by omega) (fun k u1 u2 => NdR_e (hd k u2) (fun a y w1 w2 => fA a y (by omega) (by omega)) (fun a y w1 w2 => fM a y (by omega))) hO1 hF1 v12 B0 (fun i u => ⟨fA 21 i (by omega) (by omega), fM 822 i (by omega)⟩)
    have e1' : fX0_passBit_h33 fu (sI t) fu (1, 0, A1, Lc) = some (A2, Lc) := e1
    have e2' : fX12_run_h56 fu 1 (fX12_run_h45 fu 1 (fu - 1)) fu ((mset M 821 0 0) 821 11, 0, 1, 0, mset M 821 0 0, Lm) = some (x, mset M2 821 2 (sI (t + 1)), Lm) := e2
    have cls : (if bI asl = 0 then fX0_passBit_h33 fu (sI t) fu (1, 0, A1, Lc) else if sI (fl t) = 0 then some (A1, Lc) else fX0_passBit_h33 fu (sI t) fu (1, 0, A1, Lc)) = some (A2, Lc) := by
      rw [e1']
      cases ha : asl with
      | false => rw [if_pos (show bI false = 0 from rfl)]
      | true =>
        have fz : ¬ fl t = 0 := fun z => slp ⟨ha, z⟩
        have := (hF t ht).2.1
        rw [if_neg (show ¬ bI true = 0 by decide), if_neg (show ¬ sI (fl t) = 0 by rw [sI_eql (by omega) (by decide)]; exact fz)]
    rw [cls, e2']
    refine ⟨A2, _, x, dn', ec', tc', asl', mk, rfl, rfl, ⟨BuQ_G G2, fun n hn => NdR_e (N2 n hn) (fun _ _ _ _ => rfl) (fun a y w1 w2 => mset_n (by omega)), O2, fun t' ht' => ?_, ⟨a13, aa⟩, fun i hi => ?_⟩, m2, ⟨E2.1, fun n hn => ?_⟩, B2.1, fun a y u => ?_⟩
    · obtain ⟨q1, q2, q3⟩ := hF t' ht'
      exact ⟨by rw [B2.2.2.1 22 t' rfl]; exact q1, q2, fun k hk => by rw [mset_n (by omega), B2.2.2.2.1 838 _ rfl]; exact q3 k hk⟩
    · rw [mset_n (by omega)]
      by_cases z : i = t
      · rw [z, b21, b22]
      · rw [(bi i z).1, (bi i z).2]
        exact hbit i (by omega)
    · rcases E2.2 n hn with ⟨z1, z2, z3, k, z4, z5, z6, z7⟩ | z
      · exact Or.inl ⟨z1, z2, z3, k, z4, z5, by rw [mset_n (by omega)]; exact z6, TkE_fr z7 (fun _ _ _ => rfl) (fun a y w => mset_n (by omega))⟩
      · exact Or.inr z
    · rw [mset_n (by omega)]
      exact B2.2.1 a y u
