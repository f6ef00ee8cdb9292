/-! one bit on the bus -/
theorem and_pb : ∀ b, b < 2 → ∀ p, p < 2 → sI b &&& sI p = sI (if p = 0 then 0 else b) := by decide
theorem all_put {fu N t F : Nat} {v2 : Int32} {ow id : Nat → Nat} {oc : Nat → Nat → Nat} {dn ec tc fl : Nat → Nat} {A0 M0 : mwM} {Lc Lm : mwL} (hfu : 1300 ≤ fu) (hN : N ≤ 7) : ∀ (m n f g : Nat) (A M : mwM) (bb : Nat), n + m = N → m < f → m < g → bb < 2 → BuG A M N t F ow id oc dn ec tc → (∀ k, k < n → ∃ pb, NmR A M F ow id oc dn k t (ec k) (tc k) pb) → (∀ k, n ≤ k → k < N → NdR A M F ow id oc dn k t (ec k) (tc k)) → OcA A → FlR A M fl → A 20 12 = sI 0 → bitF A0 M0 A M → (∀ i, i ≠ t → A 21 i = A0 21 i ∧ M 822 i = M0 822 i) → ∃ bb', bb' < 2 ∧ JP N t F ow id oc tc A0 M0 Lc Lm bb' (fX0_passBit_h33 fu (sI t) f (sI bb, sI n, A, Lc)) (fX12_run_h56 fu 1 (fX12_run_h45 fu 1 (fu - 1)) g (v2, 0, sI bb, sI n, M, Lm)) := by
  intro m
  induction m with
  | zero =>
    intro n f g A M bb hn hf hg hbb hG hm hd hO hF h12 hB hbit
    obtain ⟨f', rfl⟩ : ∃ f', f = f' + 1 := ⟨f - 1, by omega⟩
    obtain ⟨g', rfl⟩ : ∃ g', g = g' + 1 := ⟨g - 1, by omega⟩
    have nN : n = N := by omega
    subst nN
    have hG' := hG
    obtain ⟨g1, ⟨g2, g3, g4⟩, _, _, hW, hC, _⟩ := hG'
    refine ⟨bb, hbb, ?_⟩
    unfold fX0_passBit_h33 fX12_run_h56
    rw [mloop_S, mloop_S]
    show JP n t F ow id oc tc A0 M0 Lc Lm bb (fX0_passBit_i33 fu (sI t) _ (sI bb) (sI n) A Lc) (fX12_run_i56 fu 1 _ _ v2 0 (sI bb) (sI n) M Lm)
    unfold fX0_passBit_i33 fX12_run_i56
    have nn : sI n ≤ sI n := by rw [sI_le (by omega) (by omega)]; omega
    rw [g2, if_pos nn, g3, if_pos nn, g4, mck_s g1.2.2 (by omega), mck_s g1.2.2 (by omega), sI_nn (show t < 2000000000 by omega), nb2 bb hbb]
    simp only [mlet]
    have sA : ∀ a y, ¬ (a = 20 ∧ y = 13) → ¬ (a = 21 ∧ y = t) → mset (mset A 21 t (sI bb)) 20 13 1 a y = A a y := fun a y u1 u2 => by rw [mset_n u1, mset_n u2]
    have sM : ∀ a y, ¬ (a = 822 ∧ y = t) → mset M 822 t (sI bb) a y = M a y := fun a y u => mset_n u
    refine all_see (v2 := v2) (fl := fl) hfu hN hbb n 0 fu fu (mset (mset A 21 t (sI bb)) 20 13 1) (mset M 822 t (sI bb)) dn ec tc 0 true (by omega) (by omega) (by omega) (BuG_fr hG (fun a y u => sA a y (by omega) (by omega)) (fun a y u => sM a y (by omega)) (WC_fr hW (fun a y u => sM a y (by omega))) (CA_fr hC (fun a y u => sM a y (by omega)))) (fun k u => by omega) (fun k u1 u2 => ?_) (fun k u => ?_) (fun t' ht' => ?_) (by omega) ⟨by rw [sA 20 12 (by omega) (by omega)]; exact h12, fun k u => Or.inr ⟨by rw [Nat.zero_div], rfl⟩⟩ (Nat.le_refl _) (by rw [mset_s]; rfl) (fun _ k u => by omega) ⟨fun a y u => by rw [sA a y (by omega) (by omega)]; exact hB.1 a y u, fun a y u => by rw [sM a y (by omega)]; exact hB.2.1 a y u, fun a y u => by rw [sA a y (by omega) (by omega)]; exact hB.2.2.1 a y u, fun a y u => by rw [sM a y (by omega)]; exact hB.2.2.2.1 a y u, fun y u1 u2 u3 u4 => by rw [sA 20 y (by omega) (by omega)]; exact hB.2.2.2.2 y u1 u2 u3 u4⟩ (fun i u => by rw [sA 21 i (by omega) (by omega), sM 822 i (by omega)]; exact hbit i u) (by rw [mset_n (by omega), mset_s]) mset_s
    · obtain ⟨pb, hpb⟩ := hm k u2
      exact ⟨pb, NmR_e hpb (fun a y w1 w2 => sA a y (by omega) (by omega)) (fun a y w1 w2 => sM a y (by omega))⟩
    · obtain ⟨o, ho⟩ := hO k u
      exact ⟨o, OcR_f ho (fun y => sA _ y (by omega) (by omega))⟩
    · obtain ⟨q1, q2, q3⟩ := hF t' ht'
      exact ⟨by rw [sA 22 t' (by omega) (by omega)]; exact q1, q2, fun k hk => by rw [sM 838 _ (by omega)]; exact q3 k hk⟩
  | succ m ih =>
    intro n f g A M bb hn hf hg hbb hG hm hd hO hF h12 hB hbit
    obtain ⟨f', rfl⟩ : ∃ f', f = f' + 1 := ⟨f - 1, by omega⟩
    obtain ⟨g', rfl⟩ : ∃ g', g = g' + 1 := ⟨g - 1, by omega⟩
    have hG' := hG
    obtain ⟨g1, ⟨g2, g3, g4⟩, _⟩ := hG'
    obtain ⟨A1, M1, pb, p2, e1, e2, G1, N1, pA, pM⟩ := st_put (fu := fu) (Lc := Lc) (Lm := Lm) hfu (show n < 7 by omega) hG (hd n (Nat.le_refl n) (by omega))
    have nA : ndA n A (mset A1 32 n (sI pb)) := fun a y u => pA a y (by omega) (by omega)
    have nM : ndM n M M1 := fun a y u => pM a y (by omega) (by omega)
    have hb' : (if pb = 0 then 0 else bb) < 2 := by split <;> omega
    obtain ⟨bb', hb2, hJ⟩ := ih (n + 1) f' g' (mset A1 32 n (sI pb)) M1 (if pb = 0 then 0 else bb) (by omega) (by omega) (by omega) hb' G1 (fun k hk => by
      by_cases q : k = n
      · rw [q]; exact ⟨pb, N1⟩
      · obtain ⟨pk, hpk⟩ := hm k (by omega)
        exact ⟨pk, NmR_o q (by omega) (by omega) hpk nA nM (fun _ _ => rfl)⟩) (fun k h1 h2 => NdR_o (by omega) (by omega) (by omega) (hd k (by omega) h2) nA nM (fun _ _ => rfl)) (fun k hk => by
      obtain ⟨o, ho⟩ := hO k hk
      exact ⟨o, OcR_f ho (fun y => pA _ y (by omega) (by omega))⟩) (fun t' ht' => by
      obtain ⟨q1, q2, q3⟩ := hF t' ht'
      exact ⟨by rw [pA 22 t' (by omega) (by omega)]; exact q1, q2, fun k hk => by rw [pM 838 _ (by omega) (by omega)]; exact q3 k hk⟩) (by rw [pA 20 12 (by omega) (by omega)]; exact h12) ⟨fun a y u => by rw [pA a y (by omega) (by omega)]; exact hB.1 a y u, fun a y u => by rw [pM a y (by omega) (by omega)]; exact hB.2.1 a y u, fun a y u => by rw [pA a y (by omega) (by omega)]; exact hB.2.2.1 a y u, fun a y u => by rw [pM a y (by omega) (by omega)]; exact hB.2.2.2.1 a y u, fun y u1 u2 u3 u4 => by rw [pA 20 y (by omega) (by omega)]; exact hB.2.2.2.2 y u1 u2 u3 u4⟩ (fun i u => by rw [pA 21 i (by omega) (by omega), pM 822 i (by omega) (by omega)]; exact hbit i u)
    refine ⟨bb', hb2, ?_⟩
    unfold fX0_passBit_h33 fX12_run_h56
    rw [mloop_S, mloop_S]
    show JP N t F ow id oc tc A0 M0 Lc Lm bb' (fX0_passBit_i33 fu (sI t) (fX0_passBit_h33 fu (sI t) f') (sI bb) (sI n) A Lc) (fX12_run_i56 fu 1 (fX12_run_h45 fu 1 (fu - 1)) (fX12_run_h56 fu 1 (fX12_run_h45 fu 1 (fu - 1)) g') v2 0 (sI bb) (sI n) M Lm)
    unfold fX0_passBit_i33 fX12_run_i56 fX12_run_b80
    have nn : ¬ sI N ≤ sI n := by rw [sI_le (by omega) (by omega)]; omega
    rw [g2, if_neg nn, g3, if_neg nn, e1, mb3_s, e2, mb3_s, mck_s (show n < 7 by omega) (by omega), sI_nn (show n < 2000000000 by omega)]
    simp only [mlet]
    rw [mck_s (show n < 7 by omega) (by omega), mset_s, and_pb bb hbb pb p2, sI_1]
    by_cases c : pb = 0
    · rw [if_pos c] at hJ
      rw [if_pos c, if_pos (show sI pb = 0 by rw [c]; rfl)]
      exact hJ
    · rw [if_neg c] at hJ
      rw [if_neg c, if_neg (show ¬ sI pb = 0 by rw [sI_eql (by omega) (by decide)]; exact c)]
      exact hJ
/-- between bits -/
def BuQ (A M : mwM) (N t F : Nat) (ow id : Nat → Nat) (oc : Nat → Nat → Nat) (dn ec tc : Nat → Nat) : Prop :=
  (1 ≤ N ∧ N ≤ 7 ∧ t ≤ 20000) ∧ (A 20 8 = sI N ∧ M 821 1 = sI N ∧ M 821 2 = sI t) ∧ FrC A F ow id oc dn ∧ FrM M F ow id oc dn ∧ WC M F id oc ∧ CA M ∧
  (A 20 10 = sI (s7 ec) ∧ M 821 29 = sI (s7 ec) ∧ ErR A M (s7 ec)) ∧
  (A 20 11 = sI (cnt (fun f => decide (dn f = 1)) F) ∧ M 821 11 = sI (cnt (fun f => decide (dn f = 1)) F)) ∧
  (∀ n, n < 7 → A 30 n = sI (cnt (fun f => decide (ow f = n ∧ dn f = 0)) F) ∧ A 31 n = sI (tc n) ∧ M 834 n = 0 ∧ M 835 n = 0) ∧
  M 821 22 = sI (s7 tc) ∧ TnR M (s7 tc) tc ∧ (∀ n, n < 7 → 8 * ec n ≤ t + 8 ∧ 40 * tc n ≤ t)
theorem BuG_Q {A M : mwM} {N t F : Nat} {ow id : Nat → Nat} {oc : Nat → Nat → Nat} {dn ec tc : Nat → Nat} (h : BuQ A M N t F ow id oc dn ec tc) (ht : t < 20000) : BuG A M N t F ow id oc dn ec tc := by
  obtain ⟨h1, h2, h3, h4, h5, h6, h7, h8, h9, h10, h11, h12⟩ := h
  exact ⟨⟨h1.1, h1.2.1, ht⟩, h2, h3, h4, h5, h6, h7, h8, h9, h10, h11, fun n u => ⟨(h12 n u).1, by have := (h12 n u).2; omega⟩⟩
theorem BuQ_G {A M : mwM} {N t F : Nat} {ow id : Nat → Nat} {oc : Nat → Nat → Nat} {dn ec tc : Nat → Nat} (h : BuG A M N t F ow id oc dn ec tc) : BuQ A (mset M 821 2 (sI (t + 1))) N (t + 1) F ow id oc dn ec tc := by
  obtain ⟨h1, ⟨h2, h2', h2''⟩, h3, h4, h5, h6, ⟨h7, h7', h7''⟩, ⟨h8, h8'⟩, h9, h10, ⟨tn, h11, h11'⟩, h12⟩ := h
  have sm : ∀ a y, ¬ (a = 821 ∧ y = 2) → mset M 821 2 (sI (t + 1)) a y = M a y := fun a y u => mset_n u
  refine ⟨⟨h1.1, h1.2.1, by omega⟩, ⟨h2, by rw [sm 821 1 (by omega)]; exact h2', mset_s⟩, h3, FrM_fr h4 (fun a y u => sm a y (by omega)), WC_fr h5 (fun a y u => sm a y (by omega)), CA_fr h6 (fun a y u => sm a y (by omega)), ⟨h7, by rw [sm 821 29 (by omega)]; exact h7', fun i u => ?_⟩, ⟨h8, by rw [sm 821 11 (by omega)]; exact h8'⟩, fun n u => ?_, by rw [sm 821 22 (by omega)]; exact h10, ⟨tn, fun k u => by rw [sm 839 k (by omega)]; exact h11 k u, h11'⟩, fun n u => ⟨by have := (h12 n u).1; omega, (h12 n u).2⟩⟩
  · obtain ⟨k, n, tt, q1, q2, q3, q4, q5, q6, q7⟩ := h7'' i u
    exact ⟨k, n, tt, q1, q2, q3, q4, by rw [sm 845 i (by omega)]; exact q5, by rw [sm 846 i (by omega)]; exact q6, by rw [sm 847 i (by omega)]; exact q7⟩
  · obtain ⟨q1, q2, q3, q4⟩ := h9 n u
    exact ⟨q1, q2, by rw [sm 834 n (by omega)]; exact q3, by rw [sm 835 n (by omega)]; exact q4⟩
def BusR (A M : mwM) (N t F : Nat) (ow id : Nat → Nat) (oc : Nat → Nat → Nat) (dn ec tc fl : Nat → Nat) (asl : Bool) : Prop := BuQ A M N t F ow id oc dn ec tc ∧ (∀ n, n < N → NdR A M F ow id oc dn n t (ec n) (tc n)) ∧ OcA A ∧ FlR A M fl ∧ (A 20 13 = bI asl ∧ (asl = true → ∀ n, n < N → A 25 n = sI 0 ∧ A 30 n = sI 0)) ∧ ∀ i, i < t → A 21 i = M 822 i
