/-! what is told of the bus -/
theorem NdR_25 {A M : mwM} {F : Nat} {ow id : Nat → Nat} {oc : Nat → Nat → Nat} {dn : Nat → Nat} {m t ecn tcn : Nat} (h : NdR A M F ow id oc dn m t ecn tcn) : A 25 m = M 831 m := by
  rcases h with ⟨h1, h2, h3, h4⟩ | ⟨f, K, f1, f2, f3, f4, f5, _⟩ | ⟨s, K, k1, k2, _⟩ | ⟨st, lf, g1, g2, g3, g4, _⟩
  · rw [h1, h2]
  · rw [f4, f5]
  · rw [k1, k2]
  · rw [g3, g4]
theorem m_state12 {fu n N : Nat} {M : mwM} {L : mwL} (h1 : M 821 1 = sI N) (hN : N ≤ 7) (hn : n < N) : DX12_state fu (sI n) M L = some (M 831 n, mset M 821 0 0, L) := by
  unfold DX12_state fX12_state_b14 fX12_state_b34
  rw [m_noNode h1 hN hn, mb3_s, if_pos (show (0 : Int32) = 0 from rfl)]
  simp only [mlet]
  rw [mset_s, if_pos (show (0 : Int32) ≤ 0 by decide), mck_s (by omega) (by omega), sI_nn (by omega), mset_n (by omega)]
theorem m_waiting12 {fu n N F : Nat} {ow id dn : Nat → Nat} {oc : Nat → Nat → Nat} {M : mwM} {L : mwL} (hfu : 300 ≤ fu) (h1 : M 821 1 = sI N) (hN : N ≤ 7) (hn : n < N) (hM : FrM M F ow id oc dn) : DX12_waiting fu (sI n) M L = some (sI (cnt (fun f => decide (ow f = n ∧ dn f = 0)) F), mset M 821 0 0, L) := by
  obtain ⟨h4, hF, hA⟩ := hM
  unfold DX12_waiting fX12_waiting_b14
  rw [m_noNode h1 hN hn, mb3_s, if_pos (show (0 : Int32) = 0 from rfl)]
  simp only [mlet]
  have key : ∀ (m f g : Nat), f + m = F → m < g → fX12_waiting_h21 fu (sI n) g (sI (cnt (fun f => decide (ow f = n ∧ dn f = 0)) f), sI f, mset M 821 0 0, L) = some (sI (cnt (fun f => decide (ow f = n ∧ dn f = 0)) F), mset M 821 0 0, L) := by
    intro m
    induction m with
    | zero =>
      intro f g hf hg
      obtain ⟨g', rfl⟩ : ∃ g', g = g' + 1 := ⟨g - 1, by omega⟩
      have : f = F := by omega
      subst this
      unfold fX12_waiting_h21
      rw [mloop_S]
      show fX12_waiting_i21 fu (sI n) _ (sI (cnt (fun f => decide (ow f = n ∧ dn f = 0)) f)) (sI f) (mset M 821 0 0) L = _
      unfold fX12_waiting_i21 fX12_waiting_b69
      rw [mset_n (by omega), h4, if_pos (by rw [sI_le (by omega) (by omega)]; omega)]
    | succ m ih =>
      intro f g hf hg
      obtain ⟨g', rfl⟩ : ∃ g', g = g' + 1 := ⟨g - 1, by omega⟩
      obtain ⟨a1, a2, a3, a4, a5, _⟩ := hA f (by omega)
      unfold fX12_waiting_h21
      rw [mloop_S]
      show fX12_waiting_i21 fu (sI n) (fX12_waiting_h21 fu (sI n) g') (sI (cnt (fun f => decide (ow f = n ∧ dn f = 0)) f)) (sI f) (mset M 821 0 0) L = _
      unfold fX12_waiting_i21 fX12_waiting_b61 fX12_waiting_b62
      rw [mset_n (show ¬ (821 = 821 ∧ 4 = 0) by omega), h4, if_neg (by rw [sI_le (by omega) (by omega)]; omega), mset_s, if_pos (show (0 : Int32) = 0 from rfl), mck_s (by omega) (by omega), mck_s (by omega) (by omega), sI_nn (by omega), mset_n (by omega), a1, mset_n (by omega), a4]
      simp only [mlet]
      rw [sI_1, sI_1]
      have nx := ih (f + 1) g' (by omega) (by omega)
      have cs : cnt (fun f => decide (ow f = n ∧ dn f = 0)) (f + 1) = cnt (fun f => decide (ow f = n ∧ dn f = 0)) f + (if decide (ow f = n ∧ dn f = 0) = true then 1 else 0) := rfl
      rw [cs] at nx
      by_cases c1 : ow f = n
      · rw [if_pos (show sI (ow f) = sI n by rw [c1])]
        by_cases c2 : dn f = 0
        · rw [if_pos (show sI (dn f) = 0 by rw [c2]; rfl)]
          rw [decide_eq_true ⟨c1, c2⟩, if_pos rfl] at nx
          exact nx
        · rw [if_neg (show ¬ sI (dn f) = 0 by rw [sI_eql (by omega) (by decide)]; exact c2)]
          rw [decide_eq_false (fun z => c2 z.2), if_neg (by decide), Nat.add_zero] at nx
          exact nx
      · rw [if_neg (show ¬ sI (ow f) = sI n by rw [sI_eq (by omega) (by omega)]; exact c1)]
        rw [decide_eq_false (fun z => c1 z.1), if_neg (by decide), Nat.add_zero] at nx
        exact nx
  exact key F 0 fu (by omega) (by omega)
theorem m_takenC {fu n N T : Nat} {tc : Nat → Nat} {M : mwM} {L : mwL} (hfu : 5000 ≤ fu) (h1 : M 821 1 = sI N) (hN : N ≤ 7) (hn : n < N) (h22 : M 821 22 = sI T) (hT : T ≤ 3600) (hR : TnR M T tc) : DX12_taken fu (sI n) (-1) 0 M L = some (sI (tc n), mset M 821 0 0, L) := by
  obtain ⟨tn, r1, r2⟩ := hR
  unfold DX12_taken fX12_taken_b14
  rw [m_noNode h1 hN hn, mb3_s, if_pos (show (0 : Int32) = 0 from rfl)]
  simp only [mlet]
  rw [mset_s, if_pos (show (0 : Int32) ≤ 0 by decide)]
  have key : ∀ (m k g : Nat), k + m = T → m < g → fX12_taken_h41 fu (sI n) (-1) 0 g (sI (cnt (fun k => decide (tn k = n)) k), sI k, mset M 821 0 0, L) = some (sI (tc n), mset M 821 0 0, L) := by
    intro m
    induction m with
    | zero =>
      intro k g hk hg
      obtain ⟨g', rfl⟩ : ∃ g', g = g' + 1 := ⟨g - 1, by omega⟩
      have : k = T := by omega
      subst this
      unfold fX12_taken_h41
      rw [mloop_S]
      show fX12_taken_i41 fu (sI n) (-1) 0 _ (sI (cnt (fun k => decide (tn k = n)) k)) (sI k) (mset M 821 0 0) L = _
      unfold fX12_taken_i41
      rw [mset_n (by omega), h22, if_pos (by rw [sI_le (by omega) (by omega)]; omega), r2 n (by omega)]
    | succ m ih =>
      intro k g hk hg
      obtain ⟨g', rfl⟩ : ∃ g', g = g' + 1 := ⟨g - 1, by omega⟩
      obtain ⟨a1, a2⟩ := r1 k (by omega)
      unfold fX12_taken_h41
      rw [mloop_S]
      show fX12_taken_i41 fu (sI n) (-1) 0 (fX12_taken_h41 fu (sI n) (-1) 0 g') (sI (cnt (fun k => decide (tn k = n)) k)) (sI k) (mset M 821 0 0) L = _
      unfold fX12_taken_i41 fX12_taken_b70
      rw [mset_n (by omega), h22, if_neg (by rw [sI_le (by omega) (by omega)]; omega), mck_s (by omega) (by omega), sI_nn (by omega), mset_n (by omega), a1]
      simp only [mlet]
      rw [sI_1, sI_1]
      have nx := ih (k + 1) g' (by omega) (by omega)
      have cs : cnt (fun k => decide (tn k = n)) (k + 1) = cnt (fun k => decide (tn k = n)) k + (if decide (tn k = n) = true then 1 else 0) := rfl
      rw [cs] at nx
      by_cases c1 : tn k = n
      · rw [if_pos (show sI (tn k) = sI n by rw [c1])]
        rw [decide_eq_true c1, if_pos rfl] at nx
        exact nx
      · rw [if_neg (show ¬ sI (tn k) = sI n by rw [sI_eq (by omega) (by omega)]; exact c1)]
        rw [decide_eq_false c1, if_neg (by decide), Nat.add_zero] at nx
        exact nx
  have e := key T 0 fu (by omega) (by omega)
  first
    | exact e
    | (rw [if_pos rfl, if_pos rfl]; exact e)
    | (simp only [ite_true]; exact e)
theorem m_bit12 {fu i t : Nat} {M : mwM} {L : mwL} (h2 : M 821 2 = sI t) (ht : t ≤ 20000) (hi : i < t) : DX12_bit fu (sI i) M L = some (M 822 i, mset M 821 0 0, L) := by
  unfold DX12_bit fX12_bit_b18 fX12_bit_b38
  rw [if_neg (show ¬ sI i < 0 by rw [sI_ltl (by omega) (by decide)]; omega), h2, if_pos (show sI i < sI t by rw [sI_lt (by omega) (by omega)]; exact hi)]
  simp only [mlet]
  rw [mset_s, if_pos (show (0 : Int32) ≤ 0 by decide), mck_s (by omega) (by omega), sI_nn (by omega), mset_n (by omega)]
def erV (k n t w : Nat) : Nat := if w = 0 then k else if w = 1 then n else t
/-- an error, as both sides tell it -/
theorem st_error {fu E i w : Nat} {A M : mwM} {Lc Lm : mwL} (hE : ErR A M E) (h29 : M 821 29 = sI E) (hE2 : E ≤ 17507) (hi : i < E) (hw : w < 3) : ∃ v, DX0_tellError fu (sI i) (sI w) A Lc = some (v, A, Lc) ∧ DX12_error fu (sI i) (sI w) M Lm = some (v, mset (mset M 821 0 0) 821 0 0, Lm) := by
  obtain ⟨k, n, t, k1, k2, k3, k4, k5, k6, k7⟩ := hE i hi
  refine ⟨sI (erV k n t w), ?_, ?_⟩
  · unfold DX0_tellError fX0_tellError_b36 erV
    rw [mck_s (by omega) (by omega), sI_nn (by omega), k4]
    simp only [mlet]
    have e0 : sI (k + 8 * n + 64 * t) &&& 7 = sI k := by
      have := sI_and (a := k + 8 * n + 64 * t) (m := 3)
      rw [show (k + 8 * n + 64 * t) % 2 ^ 3 = k by omega] at this
      exact this
    have e1 : (sI (k + 8 * n + 64 * t) >>> ((3 : Int32) &&& 31)) &&& 7 = sI n := by
      have s1 : sI (k + 8 * n + 64 * t) >>> ((3 : Int32) &&& 31) = sI ((k + 8 * n + 64 * t) / 2 ^ 3) := sI_shr (s := 3) (by omega) (by omega)
      rw [s1]
      have := sI_and (a := (k + 8 * n + 64 * t) / 2 ^ 3) (m := 3)
      rw [show (k + 8 * n + 64 * t) / 2 ^ 3 % 2 ^ 3 = n by omega] at this
      exact this
    have e2 : sI (k + 8 * n + 64 * t) >>> ((6 : Int32) &&& 31) = sI t := by
      have s1 : sI (k + 8 * n + 64 * t) >>> ((6 : Int32) &&& 31) = sI ((k + 8 * n + 64 * t) / 2 ^ 6) := sI_shr (s := 6) (by omega) (by omega)
      rw [s1, show (k + 8 * n + 64 * t) / 2 ^ 6 = t by omega]
    rw [e0, e1, e2]
    rcases (show w = 0 ∨ w = 1 ∨ w = 2 by omega) with rfl | rfl | rfl
    · rw [if_pos (show sI 0 = 0 from rfl), if_pos rfl]
    · rw [if_neg (show ¬ sI 1 = 0 by decide), if_pos (show sI 1 = 1 from rfl), if_neg (by decide), if_pos rfl]
    · rw [if_neg (show ¬ sI 2 = 0 by decide), if_neg (show ¬ sI 2 = 1 by decide), if_neg (by decide), if_neg (by decide)]
  · unfold DX12_error
    simp only [mlet]
    have b19 : fX12_error_b19 fu (sI i) (sI w) (mset M 821 0 0) Lm = some (sI (erV k n t w), mset (mset M 821 0 0) 821 0 0, Lm) := by
      unfold fX12_error_b19 fX12_error_b50 fX12_error_b95 erV
      rw [if_neg (show ¬ sI i < 0 by rw [sI_ltl (by omega) (by decide)]; omega), mset_n (show ¬ (821 = 821 ∧ 29 = 0) by omega), h29, if_pos (show sI i < sI E by rw [sI_lt (by omega) (by omega)]; exact hi), if_neg (show ¬ sI w < 0 by rw [sI_ltl (by omega) (by decide)]; omega), if_pos (show sI w ≤ 2 by rw [sI_lel (by omega) (by decide)]; omega)]
      simp only [mlet]
      rw [mset_s, if_pos (show (0 : Int32) ≤ 0 by decide), mck_s (by omega) (by omega), mck_s (by omega) (by omega), mck_s (by omega) (by omega), sI_nn (by omega)]
      simp (disch := omega) only [mset_n]
      rw [k5, k6, k7]
      rcases (show w = 0 ∨ w = 1 ∨ w = 2 by omega) with rfl | rfl | rfl
      · rw [if_pos (show sI 0 = 0 from rfl), if_pos rfl]
      · rw [if_neg (show ¬ sI 1 = 0 by decide), if_pos (show sI 1 = 1 from rfl), if_neg (by decide), if_pos rfl]
      · rw [if_neg (show ¬ sI 2 = 0 by decide), if_neg (show ¬ sI 2 = 1 by decide), if_neg (by decide), if_neg (by decide)]
    rw [if_neg (fun z => sI_m1n (show i < 2000000000 by omega) z.symm)]
    exact b19
/-- a flip -/
theorem fl_or : ∀ n, n < 7 → ∀ x, x < 128 → vp_nar .byte ((sI x ||| (1 <<< (sI n &&& 31))).toInt8.toInt32) = sI (x ||| 2 ^ n) ∧ x ||| 2 ^ n < 128 ∧ ∀ m, m < 7 → (x ||| 2 ^ n) / 2 ^ m % 2 = (if m = n then 1 else x / 2 ^ m % 2) := by decide +kernel
theorem st_flip {fu N t F n at' : Nat} {ow id : Nat → Nat} {oc : Nat → Nat → Nat} {dn ec tc fl : Nat → Nat} {asl : Bool} {A M : mwM} {Lm : mwL} (hB : BusR A M N t F ow id oc dn ec tc fl asl) (hn : n < N) (h1 : t ≤ at') (h2 : at' < 20000) : ∃ M', DX12_flip fu (sI n) (sI at') M Lm = some (M', Lm) ∧ BusR (mset A 22 at' (vp_nar .byte (((A 22 at') ||| (1 <<< (sI n &&& 31))).toInt8.toInt32))) M' N t F ow id oc dn ec tc (nst fl at' (fl at' ||| 2 ^ n)) asl ∧ ∀ a y, ¬ (a = 821 ∧ y = 0) → a ≠ 838 → M' a y = M a y := by
  obtain ⟨⟨g1, ⟨g2, g3, g4⟩, g5, g6, g7, g8, ⟨g9, g9', g9''⟩, ⟨g10, g10'⟩, g11, g12, ⟨tn, g13, g13'⟩, g14⟩, hd, hO, hF, hs, hbit⟩ := hB
  obtain ⟨f1, f2, f3⟩ := hF at' h2
  obtain ⟨o1, o2, o3⟩ := fl_or n (by omega) (fl at') f2
  unfold DX12_flip fX12_flip_b33 fX12_flip_b56
  rw [m_noNode g3 g1.2.1 hn, mb3_s, if_pos (show (0 : Int32) = 0 from rfl), g4, if_neg (show ¬ sI at' < sI t by rw [sI_lt (by omega) (by omega)]; omega), if_pos (show sI at' ≤ 19999 by rw [sI_lel (by omega) (by decide)]; omega)]
  simp only [mlet]
  rw [mset_s, if_pos (show (0 : Int32) = 0 from rfl), sI_lml, sI_add, mck_s (by omega) (by omega), sI_nn (by omega), f1, o1]
  have cA : ∀ a y, ¬ (a = 22 ∧ y = at') → mset A 22 at' (sI (fl at' ||| 2 ^ n)) a y = A a y := fun a y u => mset_n u
  have cM : ∀ a y, ¬ (a = 821 ∧ y = 0) → ¬ (a = 838 ∧ y = 20000 * n + at') → mset (mset M 821 0 0) 838 (20000 * n + at') (vp_nar .boolean 1) a y = M a y := fun a y u1 u2 => by rw [mset_n u2, mset_n u1]
  refine ⟨_, rfl, ⟨⟨g1, ⟨by rw [cA 20 8 (by omega)]; exact g2, by rw [cM 821 1 (by omega) (by omega)]; exact g3, by rw [cM 821 2 (by omega) (by omega)]; exact g4⟩, FrC_fr g5 (fun a y u => cA a y (by omega)), FrM_fr g6 (fun a y u => cM a y (by omega) (by omega)), WC_fr g7 (fun a y u => cM a y (by omega) (by omega)), CA_fr g8 (fun a y u => cM a y (by omega) (by omega)), ⟨by rw [cA 20 10 (by omega)]; exact g9, by rw [cM 821 29 (by omega) (by omega)]; exact g9', fun i u => ?_⟩, ⟨by rw [cA 20 11 (by omega)]; exact g10, by rw [cM 821 11 (by omega) (by omega)]; exact g10'⟩, fun m u => ?_, by rw [cM 821 22 (by omega) (by omega)]; exact g12, ⟨tn, fun k u => by rw [cM 839 k (by omega) (by omega)]; exact g13 k u, g13'⟩, g14⟩, fun m u => ?_, fun k u => ?_, fun t' ht' => ?_, ⟨by rw [cA 20 13 (by omega)]; exact hs.1, fun z m u => by rw [cA 25 m (by omega), cA 30 m (by omega)]; exact hs.2 z m u⟩, fun i u => by rw [cA 21 i (by omega), cM 822 i (by omega) (by omega)]; exact hbit i u⟩, fun a y u1 u2 => cM a y u1 (by omega)⟩
  · obtain ⟨k, m, tt, q1, q2, q3, q4, q5, q6, q7⟩ := g9'' i u
    exact ⟨k, m, tt, q1, q2, q3, by rw [cA 23 i (by omega)]; exact q4, by rw [cM 845 i (by omega) (by omega)]; exact q5, by rw [cM 846 i (by omega) (by omega)]; exact q6, by rw [cM 847 i (by omega) (by omega)]; exact q7⟩
  · obtain ⟨q1, q2, q3, q4⟩ := g11 m u
    exact ⟨by rw [cA 30 m (by omega)]; exact q1, by rw [cA 31 m (by omega)]; exact q2, by rw [cM 834 m (by omega) (by omega)]; exact q3, by rw [cM 835 m (by omega) (by omega)]; exact q4⟩
  · have h := hd m u
    rcases h with ⟨h1, h2, h3, h4⟩ | ⟨f, K, f1, f2, f3, f4, f5, f6, f7, f8, f9, f10, f11, f12, f13, f14, f15⟩ | ⟨s, K, k1, k2, k3, k4, k5⟩ | ⟨st, lf, w1, w2, w3, w4, w5, w6, w7, w8, w9⟩
    · exact Or.inl ⟨by rw [cA 25 m (by omega)]; exact h1, by rw [cM 831 m (by omega) (by omega)]; exact h2, h3, h4⟩
    · exact Or.inr (Or.inl ⟨f, K, f1, f2, f3, by rw [cA 25 m (by omega)]; exact f4, by rw [cM 831 m (by omega) (by omega)]; exact f5, by rw [cA 27 m (by omega)]; exact f6, by rw [cM 833 m (by omega) (by omega)]; exact f7, by rw [cA 28 m (by omega)]; exact f8, by rw [cM 836 m (by omega) (by omega)]; exact f9, f10, f11, WvR_fr f12 (fun x y u => cA x y (by omega)), fun i u1 u2 => by rw [cM 837 _ (by omega) (by omega)]; exact f13 i u1 u2, f14, f15⟩)
    · exact Or.inr (Or.inr (Or.inl ⟨s, K, by rw [cA 25 m (by omega)]; exact k1, by rw [cM 831 m (by omega) (by omega)]; exact k2, LiR_fr k3 (fun x y u => cA x y (by omega)) (fun x y u => cM x y (by omega) (by omega)), k4, k5⟩))
    · exact Or.inr (Or.inr (Or.inr ⟨st, lf, w1, w2, by rw [cA 25 m (by omega)]; exact w3, by rw [cM 831 m (by omega) (by omega)]; exact w4, fun z => by rw [cA 26 m (by omega), cM 832 m (by omega) (by omega)]; exact w5 z, w6, w7, w8, w9⟩))
  · obtain ⟨o, ho⟩ := hO k u
    exact ⟨o, OcR_f ho (fun y => cA _ y (by omega))⟩
  · obtain ⟨q1, q2, q3⟩ := hF t' ht'
    by_cases z : t' = at'
    · rw [z, nst_s]
      refine ⟨mset_s, o2, fun m u => ?_⟩
      rw [o3 m u]
      by_cases y : m = n
      · rw [y, mset_s, if_pos rfl]
        rfl
      · rw [cM 838 _ (by omega) (by omega), if_neg y]
        exact f3 m u
    · rw [nst_n z]
      exact ⟨by rw [cA 22 t' (by omega)]; exact q1, q2, fun m u => by rw [cM 838 _ (by omega) (by omega)]; exact q3 m u⟩
