/-! one bit on the bus: a node sees -/
def NmR (A M : mwM) (F : Nat) (ow id : Nat → Nat) (oc : Nat → Nat → Nat) (dn : Nat → Nat) (n t ecn tcn pb : Nat) : Prop := A 32 n = sI pb ∧
  ((A 25 n = sI 0 ∧ M 831 n = sI 0 ∧ fsF ow id oc dn n F = 0 ∧ pb = 1 ∧ 8 * ecn ≤ t ∧ 40 * tcn ≤ t) ∨
  (∃ f, fsF ow id oc dn n F = f + 1 ∧ A 25 n = sI 1 ∧ M 831 n = sI 0 ∧ A 27 n = sI f ∧ A 28 n = sI 0 ∧ WvR A n (fbF (id f) (oc f)) ∧ pb = 0 ∧ 8 * ecn ≤ t ∧ 40 * tcn ≤ t) ∨
  (∃ f K, f < F ∧ ow f = n ∧ dn f = 0 ∧ A 25 n = sI 1 ∧ M 831 n = sI 1 ∧ A 27 n = sI f ∧ M 833 n = sI f ∧ A 28 n = sI K ∧ M 836 n = sI K ∧ 1 ≤ K ∧ K < wN (fbF (id f) (oc f)) + 10 ∧ WvR A n (fbF (id f) (oc f)) ∧ (∀ i, i < K → i < wN (fbF (id f) (oc f)) → M 837 (1200 * n + i) = sI (wR (fbF (id f) (oc f)) i)) ∧ pb = wR (fbF (id f) (oc f)) K ∧ 8 * ecn ≤ t ∧ 40 * tcn + K ≤ t) ∨
  (∃ s K, A 25 n = sI 2 ∧ M 831 n = sI 2 ∧ LiR A M n K s ∧ 8 * ecn ≤ t ∧ 40 * tcn + pgL (hq s K) K ≤ t) ∨
  (∃ st lf, 3 ≤ st ∧ st ≤ 6 ∧ A 25 n = sI st ∧ M 831 n = sI st ∧ (st ≠ 4 → A 26 n = sI lf ∧ M 832 n = sI lf ∧ 1 ≤ lf ∧ lf ≤ 7) ∧ (st = 3 → 8 * ecn ≤ t + 1 + lf) ∧ (st = 4 → 8 * ecn ≤ t + 1) ∧ (5 ≤ st → 8 * ecn ≤ t) ∧ 40 * tcn ≤ t))
theorem fsF_c {ow id dn dn' : Nat → Nat} {oc : Nat → Nat → Nat} {n : Nat} (h : ∀ f, ow f = n → dn' f = dn f) : ∀ F, fsF ow id oc dn' n F = fsF ow id oc dn n F := by
  intro F
  induction F with
  | zero => rfl
  | succ F ih =>
    rw [fsF_s, fsF_s, ih]
    by_cases c : ow F = n
    · rw [h F c]
    · rw [if_neg (fun z => c z.1), if_neg (fun z => c z.1)]
theorem NmR_o {A A' M M' : mwM} {F : Nat} {ow id : Nat → Nat} {oc : Nat → Nat → Nat} {dn dn' : Nat → Nat} {n m t ecn tcn pb : Nat} (hm : m ≠ n) (hn7 : n < 7) (hm7 : m < 7) (h : NmR A M F ow id oc dn m t ecn tcn pb) (hA : ndA n A A') (hM : ndM n M M') (hd : ∀ f, ow f ≠ n → dn' f = dn f) : NmR A' M' F ow id oc dn' m t ecn tcn pb := by
  have a : ∀ x, 25 ≤ x → x ≤ 32 → A' x m = A x m := fun x u1 u2 => hA x m (by omega)
  have fc : fsF ow id oc dn' m F = fsF ow id oc dn m F := fsF_c (fun f u => hd f (by omega)) F
  refine ⟨by rw [a 32 (by omega) (by omega)]; exact h.1, ?_⟩
  rcases h.2 with ⟨h1, h2, h3, h4, h5, h6⟩ | ⟨f, f1, f2, f3, f4, f5, f6, f7, f8, f9⟩ | ⟨f, K, f1, f2, f3, f4, f5, f6, f7, f8, f9, f10, f11, f12, f13, f14, f15, f16⟩ | ⟨s, K, k1, k2, k3, k4, k5⟩ | ⟨st, lf, g1, g2, g3, g4, g5, g6, g7, g8, g9⟩
  · exact Or.inl ⟨by rw [a 25 (by omega) (by omega)]; exact h1, by rw [hM 831 m (by omega)]; exact h2, by rw [fc]; exact h3, h4, h5, h6⟩
  · exact Or.inr (Or.inl ⟨f, by rw [fc]; exact f1, by rw [a 25 (by omega) (by omega)]; exact f2, by rw [hM 831 m (by omega)]; exact f3, by rw [a 27 (by omega) (by omega)]; exact f4, by rw [a 28 (by omega) (by omega)]; exact f5, WvR_fr f6 (fun x y u => hA x y (by omega)), f7, f8, f9⟩)
  · refine Or.inr (Or.inr (Or.inl ⟨f, K, f1, f2, by rw [hd f (by omega)]; exact f3, by rw [a 25 (by omega) (by omega)]; exact f4, by rw [hM 831 m (by omega)]; exact f5, by rw [a 27 (by omega) (by omega)]; exact f6, by rw [hM 833 m (by omega)]; exact f7, by rw [a 28 (by omega) (by omega)]; exact f8, by rw [hM 836 m (by omega)]; exact f9, f10, f11, WvR_fr f12 (fun x y u => hA x y (by omega)), fun i u1 u2 => ?_, f14, f15, f16⟩))
    have wb := wN_b (f := fbF (id f) (oc f)) (fbF_lt _ _)
    rw [hM 837 _ (by omega)]
    exact f13 i u1 u2
  · exact Or.inr (Or.inr (Or.inr (Or.inl ⟨s, K, by rw [a 25 (by omega) (by omega)]; exact k1, by rw [hM 831 m (by omega)]; exact k2, LiR_fr k3 (fun x y u => hA x y (by omega)) (fun x y u => hM x y (by omega)), k4, k5⟩)))
  · refine Or.inr (Or.inr (Or.inr (Or.inr ⟨st, lf, g1, g2, by rw [a 25 (by omega) (by omega)]; exact g3, by rw [hM 831 m (by omega)]; exact g4, fun z => ?_, g6, g7, g8, g9⟩)))
    rw [a 26 (by omega) (by omega), hM 832 m (by omega)]
    exact g5 z
theorem st_node {fu N t F n b pb : Nat} {ow id : Nat → Nat} {oc : Nat → Nat → Nat} {dn ec tc : Nat → Nat} {A M : mwM} {Lc Lm : mwL} (hfu : 1300 ≤ fu) (hn : n < 7) (hb : b < 2) (hG : BuG A M N t F ow id oc dn ec tc) (hOc : ∃ o, OcR A (47 + 2 * n) o) (hN : NmR A M F ow id oc dn n t (ec n) (tc n) pb) : StQ N t F ow id oc dn ec tc n A M Lc Lm (DX0_see fu (sI n) (sI b) (sI t) A Lc) (DX12_sees fu (sI n) (sI b) M Lm) := by
  obtain ⟨h32, hN⟩ := hN
  rcases hN with ⟨h1, h2, h3, h4, h5, h6⟩ | ⟨f, f1, f2, f3, f4, f5, f6, f7, f8, f9⟩ | ⟨f, K, f1, f2, f3, f4, f5, f6, f7, f8, f9, f10, f11, f12, f13, f14, f15, f16⟩ | ⟨s, K, k1, k2, k3, k4, k5⟩ | ⟨st, lf, g1, g2, g3, g4, g5, g6, g7, g8, g9⟩
  · exact st_Q hfu hn hb hG hOc h1 h2 h3 h5 h6
  · have hG' := hG
    obtain ⟨_, _, _, hFM, hW, hC, _⟩ := hG'
    have le := (fsF_le (ow := ow) (id := id) (dn := dn) (oc := oc) (n := n) F)
    have own := le.2 (by omega)
    rw [f1, Nat.add_sub_cancel] at own
    rw [f1] at le
    have hF := hFM.2.1
    unfold DX12_sees
    rw [mck_s (by omega) (by omega), sI_nn (by omega), f3, if_pos (show sI 0 = 0 from rfl), mck_s (by omega) (by omega)]
    simp only [mlet]
    obtain ⟨⟨r, M1, L1⟩, e1, y1, y2, y3, y4⟩ := m_first (fu := fu) (M := mset M 836 n 0) (L := Lm) (by omega) hn (FrM_fr hFM (fun a y u => by simp (disch := omega) only [mset_n]))
    dsimp only at y1 y2 y3 y4
    have ef : fI (f + 1) = sI f := by
      unfold fI
      rw [if_neg (by omega), Nat.add_sub_cancel]
    rw [f1, ef] at y1
    rw [y1, y2] at e1
    have em : ¬ sI f = -1 := fun z => sI_m1n (by omega) z.symm
    have hC1 : CA M1 := y4 (CA_fr hC (fun a y u => by simp (disch := omega) only [mset_n]))
    have fM : ∀ a y, ¬ (a = 836 ∧ y = n) → ¬ (a = 821 ∧ (y = 34 ∨ y = 48)) → a ≠ 848 → a ≠ 851 → M1 a y = M a y := fun a y u1 u2 u3 u4 => by rw [y3 a y u2 u3 u4, mset_n u1]
    rw [e1, mb3_s, if_neg em]
    unfold fX12_sees_b33 fX12_sees_b48
    rw [if_neg em, mck_s (by omega) (by omega), sI_nn (by omega)]
    simp only [mlet]
    rw [mck_s (by omega) (by omega)]
    generalize hM2 : mset (mset M1 831 n 1) 833 n (sI f) = M2
    have f2' : ∀ a y, ¬ ((a = 831 ∨ a = 833) ∧ y = n) → M2 a y = M1 a y := fun a y u => by rw [← hM2, mset_n (by omega), mset_n (by omega)]
    have v2 : M2 831 n = sI 1 := by rw [← hM2, mset_n (by omega), mset_s]; rfl
    have v3 : M2 833 n = sI f := by rw [← hM2, mset_s]
    have k0 : M2 836 n = sI 0 := by rw [f2' 836 n (by omega), y3 836 n (by omega) (by omega) (by omega), mset_s]; rfl
    rw [m_b561 hn v2]
    have wb := wN_b (f := fbF (id f) (oc f)) (fbF_lt _ _)
    exact st_sent hfu hn hb (BuG_fr hG (fun _ _ _ => rfl) (fun a y u => by rw [f2' a y (by omega), fM a y (by omega) (by omega) (by omega) (by omega)]) (WC_fr hW (fun a y u => by rw [f2' a y (by omega), fM a y (by omega) (by omega) (by omega) (by omega)])) (CA_fr hC1 (fun a y u => f2' a y (by omega)))) (fun a y u => by rw [f2' a y (by omega), fM a y (by omega) (by omega) (by omega) (by omega)]) (fun a y u => by rw [f2' a y (by omega), fM a y (by omega) (by omega) (by omega) (by omega)]) hOc (by omega) own.1 own.2 f2 v2 f4 v3 f5 k0 (by rw [wR_0, h32, f7]) (by omega) f6 (fun i u => by omega) f8 (by omega)
  · rw [m_seesn hn f5 (by omega) (by omega), m_b561 hn f5]
    exact st_sent hfu hn hb hG (fun _ _ _ => rfl) (fun _ _ _ => rfl) hOc f1 f2 f3 f4 f5 f6 f7 f8 f9 (by rw [h32, f14]) f11 f12 f13 f15 f16
  · exact st_L hfu hn hb hG k1 k2 k3 k4 k5
  · rcases (show st = 3 ∨ st = 4 ∨ st = 5 ∨ st = 6 by omega) with rfl | rfl | rfl | rfl
    · obtain ⟨a1, a2, a3, a4⟩ := g5 (by omega)
      exact st_X3 hn hG hOc g3 g4 a1 a2 a3 a4 (g6 rfl) g9
    · exact st_X4 hn hb hG hOc g3 g4 (g7 rfl) g9
    · obtain ⟨a1, a2, a3, a4⟩ := g5 (by omega)
      exact st_X5 hn hb hG hOc g3 g4 a1 a2 a3 a4 (g8 (by omega)) g9
    · obtain ⟨a1, a2, a3, a4⟩ := g5 (by omega)
      exact st_X6 hfu hn hb hG hOc g3 g4 a1 a2 a3 a4 (g8 (by omega)) g9
