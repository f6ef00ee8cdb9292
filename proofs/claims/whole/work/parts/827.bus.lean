/-! what others do leaves the bus as it is -/
theorem NdR_w {A A' M M' : mwM} {F : Nat} {ow id : Nat → Nat} {oc : Nat → Nat → Nat} {dn : Nat → Nat} {m t ecn tcn : Nat} (hm : m < 7) (h : NdR A M F ow id oc dn m t ecn tcn) (hA : ∀ a y, 20 ≤ a → a ≤ 60 → A' a y = A a y) (hM : ∀ a y, 821 ≤ a → a ≤ 853 → ¬ (a = 821 ∧ y = 0) → M' a y = M a y) : NdR A' M' F ow id oc dn m t ecn tcn := by
  rcases h with ⟨h1, h2, h3, h4⟩ | ⟨f, K, f1, f2, f3, f4, f5, f6, f7, f8, f9, f10, f11, f12, f13, f14, f15⟩ | ⟨s, K, k1, k2, k3, k4, k5⟩ | ⟨st, lf, g1, g2, g3, g4, g5, g6, g7, g8, g9⟩
  · exact Or.inl ⟨by rw [hA 25 m (by omega) (by omega)]; exact h1, by rw [hM 831 m (by omega) (by omega) (by omega)]; exact h2, h3, h4⟩
  · exact Or.inr (Or.inl ⟨f, K, f1, f2, f3, by rw [hA 25 m (by omega) (by omega)]; exact f4, by rw [hM 831 m (by omega) (by omega) (by omega)]; exact f5, by rw [hA 27 m (by omega) (by omega)]; exact f6, by rw [hM 833 m (by omega) (by omega) (by omega)]; exact f7, by rw [hA 28 m (by omega) (by omega)]; exact f8, by rw [hM 836 m (by omega) (by omega) (by omega)]; exact f9, f10, f11, WvR_fr f12 (fun x y u => hA x y (by omega) (by omega)), fun i u1 u2 => by rw [hM 837 _ (by omega) (by omega) (by omega)]; exact f13 i u1 u2, f14, f15⟩)
  · exact Or.inr (Or.inr (Or.inl ⟨s, K, by rw [hA 25 m (by omega) (by omega)]; exact k1, by rw [hM 831 m (by omega) (by omega) (by omega)]; exact k2, LiR_fr k3 (fun x y u => hA x y (by omega) (by omega)) (fun x y u => hM x y (by omega) (by omega) (by omega)), k4, k5⟩))
  · exact Or.inr (Or.inr (Or.inr ⟨st, lf, g1, g2, by rw [hA 25 m (by omega) (by omega)]; exact g3, by rw [hM 831 m (by omega) (by omega) (by omega)]; exact g4, fun z => by rw [hA 26 m (by omega) (by omega), hM 832 m (by omega) (by omega) (by omega)]; exact g5 z, g6, g7, g8, g9⟩))
theorem BusR_fr {A A' M M' : mwM} {N t F : Nat} {ow id : Nat → Nat} {oc : Nat → Nat → Nat} {dn ec tc fl : Nat → Nat} {asl : Bool} (h : BusR A M N t F ow id oc dn ec tc fl asl) (hA : ∀ a y, 20 ≤ a → a ≤ 60 → A' a y = A a y) (hM : ∀ a y, 821 ≤ a → a ≤ 853 → ¬ (a = 821 ∧ y = 0) → M' a y = M a y) : BusR A' M' N t F ow id oc dn ec tc fl asl := by
  obtain ⟨⟨h1, ⟨h2, h3, h4⟩, h5, h6, h7, h8, ⟨h9, h10, h11⟩, ⟨h12, h13⟩, h14, h15, ⟨tn, h16, h17⟩, h18⟩, hd, hO, hF, ⟨k1, k2⟩, k3⟩ := h
  refine ⟨⟨h1, ⟨by rw [hA 20 8 (by omega) (by omega)]; exact h2, by rw [hM 821 1 (by omega) (by omega) (by omega)]; exact h3, by rw [hM 821 2 (by omega) (by omega) (by omega)]; exact h4⟩, FrC_fr h5 (fun a y u => hA a y (by omega) (by omega)), FrM_fr h6 (fun a y u => hM a y (by omega) (by omega) (by omega)), WC_fr h7 (fun a y u => hM a y (by omega) (by omega) (by omega)), CA_fr h8 (fun a y u => hM a y (by omega) (by omega) (by omega)), ⟨by rw [hA 20 10 (by omega) (by omega)]; exact h9, by rw [hM 821 29 (by omega) (by omega) (by omega)]; exact h10, fun i u => ?_⟩, ⟨by rw [hA 20 11 (by omega) (by omega)]; exact h12, by rw [hM 821 11 (by omega) (by omega) (by omega)]; exact h13⟩, fun n u => ?_, by rw [hM 821 22 (by omega) (by omega) (by omega)]; exact h15, ⟨tn, fun k u => by rw [hM 839 k (by omega) (by omega) (by omega)]; exact h16 k u, h17⟩, h18⟩, fun n hn => NdR_w (by omega) (hd n hn) hA hM, fun n hn => ?_, fun x hx => ?_, ⟨by rw [hA 20 13 (by omega) (by omega)]; exact k1, fun z n hn => ?_⟩, fun i hi => ?_⟩
  · obtain ⟨k, n, tt, q1, q2, q3, q4, q5, q6, q7⟩ := h11 i u
    exact ⟨k, n, tt, q1, q2, q3, by rw [hA 23 i (by omega) (by omega)]; exact q4, by rw [hM 845 i (by omega) (by omega) (by omega)]; exact q5, by rw [hM 846 i (by omega) (by omega) (by omega)]; exact q6, by rw [hM 847 i (by omega) (by omega) (by omega)]; exact q7⟩
  · obtain ⟨q1, q2, q3, q4⟩ := h14 n u
    exact ⟨by rw [hA 30 n (by omega) (by omega)]; exact q1, by rw [hA 31 n (by omega) (by omega)]; exact q2, by rw [hM 834 n (by omega) (by omega) (by omega)]; exact q3, by rw [hM 835 n (by omega) (by omega) (by omega)]; exact q4⟩
  · obtain ⟨o, ho⟩ := hO n hn
    exact ⟨o, OcR_f ho (fun y => hA _ y (by omega) (by omega))⟩
  · obtain ⟨q1, q2, q3⟩ := hF x hx
    exact ⟨by rw [hA 22 x (by omega) (by omega)]; exact q1, q2, fun n hn => by rw [hM 838 _ (by omega) (by omega) (by omega)]; exact q3 n hn⟩
  · rw [hA 25 n (by omega) (by omega), hA 30 n (by omega) (by omega)]
    exact k2 z n hn
  · rw [hA 21 i (by omega) (by omega), hM 822 i (by omega) (by omega) (by omega)]
    exact k3 i hi
theorem i64_255 (y : Int64) : (y &&& 255).toInt32 = y.toInt32 &&& 255 := by
  apply Int32.toBitVec_inj.mp
  rw [Int64.toBitVec_toInt32, sx32]
  show ((y.toBitVec &&& (255 : Int64).toBitVec).setWidth 32) = y.toInt32.toBitVec &&& (255 : Int32).toBitVec
  rw [Int64.toBitVec_toInt32, sx32, BitVec.setWidth_and]
  rfl
/-- the code of a frame, as the reference makes it -/
theorem m_codeF {fu f n P key : Nat} {A M : mwM} {L : mwL} {S oc : Nat → Nat} (hfu : 200 ≤ fu) (hf : f < 40) (hn : n < 2000000000) (hP : P < 40) (h784 : M 784 f = sI P) (h783 : M 783 f = sI key) (hk1 : 1 ≤ key) (hk2 : key ≤ 16) (hC : RCd A M S) (ho : ∀ i, i < 3 → M 926 i = sI (oc i) ∧ oc i < 256) : ∃ M', DX19_codeOf fu (sI f) (sL n) M L = some (M', L) ∧ bytes M' 859 4 (cmac S (scN S key) 12 (vS P n oc)) ∧ M' 854 6 = 0 ∧ M' 854 7 = 4 ∧ ∀ a y, ¬ (a = 854 ∧ (y = 0 ∨ y = 6 ∨ y = 7)) → a ≠ 858 → a ≠ 859 → ¬ (863 ≤ a ∧ a ≤ 867) → M' a y = M a y := by
  obtain ⟨c1, c2, c3, c4, c5, c6, c7⟩ := hC
  -- one octet more
  have step : ∀ (B : mwM) (m : Nat) (z : Int32), m < 12 → z &&& 255 = sI (vS P n oc m) → B 854 6 = sI m → (∀ x, x < m → B 858 x = sI (vS P n oc x)) → (∀ a y, ¬ (a = 854 ∧ (y = 0 ∨ y = 6 ∨ y = 7)) → a ≠ 858 → B a y = M a y) → ∃ B', DX14_octet fu z B L = some (B', L) ∧ B' 854 6 = sI (m + 1) ∧ (∀ x, x < m + 1 → B' 858 x = sI (vS P n oc x)) ∧ ∀ a y, ¬ (a = 854 ∧ (y = 0 ∨ y = 6 ∨ y = 7)) → a ≠ 858 → B' a y = M a y := by
    intro B m z hm hz h6 h858 hf
    refine ⟨_, m_octet (by omega) h6 (vS_lt (by omega) (fun i hi => (ho i hi).2) m hm) z hz, by rw [mset_s], fun x hx => ?_, fun a y w1 w2 => by rw [mset_n (by omega), mset_n (by omega), mset_n (by omega)]; exact hf a y w1 w2⟩
    by_cases e : x = m
    · rw [e, mset_n (by omega), mset_s]
    · rw [mset_n (by omega), mset_n (by omega), mset_n (by omega)]
      exact h858 x (by omega)
  have last : ∀ (r i q : Nat) (B : mwM), i + r = 3 → r < q → B 854 6 = sI (9 + i) → (∀ x, x < 9 + i → B 858 x = sI (vS P n oc x)) → (∀ a y, ¬ (a = 854 ∧ (y = 0 ∨ y = 6 ∨ y = 7)) → a ≠ 858 → B a y = M a y) → ∃ M', fX19_codeOf_h52 fu (sI f) (sL n) q (sI i, B, L) = some (M', L) ∧ bytes M' 859 4 (cmac S (scN S key) 12 (vS P n oc)) ∧ M' 854 6 = 0 ∧ M' 854 7 = 4 ∧ ∀ a y, ¬ (a = 854 ∧ (y = 0 ∨ y = 6 ∨ y = 7)) → a ≠ 858 → a ≠ 859 → ¬ (863 ≤ a ∧ a ≤ 867) → M' a y = M a y := by
    intro r
    induction r with
    | zero =>
      intro i q B hi hq h6 h858 hfr
      obtain ⟨q', rfl⟩ : ∃ y, q = y + 1 := ⟨q - 1, by omega⟩
      have ei : i = 3 := by omega
      subst ei
      have hm := m_code (fu := fu) (L := L) (M := B) (k := key) (n := 12) (S := S) (k0 := fun i => key + i) (v := vS P n oc) (by omega) hk1 hk2 (by omega) (by omega) (by rw [hfr _ _ (by omega) (by omega)]; exact c4) h6 (fun i u => by rw [hfr _ _ (by omega) (by omega)]; exact c3 i u) (fun i u => by rw [hfr _ _ (by omega) (by omega)]; exact ⟨c6 key hk1 hk2 i u, by omega⟩) (fun x hx => ⟨h858 x hx, vS_lt (by omega) (fun i hi => (ho i hi).2) x hx⟩)
      obtain ⟨⟨z0, M', L'⟩, z1, z2, z3, z4, z5, z6⟩ := hm
      dsimp only at z2 z3 z4 z5 z6
      subst z2
      refine ⟨M', ?_, z3, z4, z5, fun a y w1 w2 w3 w4 => by rw [z6 a y w1 w3 w4]; exact hfr a y w1 w2⟩
      show fX19_codeOf_i52 fu (sI f) (sL n) (fX19_codeOf_h52 fu (sI f) (sL n) q') (sI 3) B L' = _
      unfold fX19_codeOf_i52
      rw [if_pos (by decide), mck_s hf (by omega), sI_nn (by omega), hfr 783 f (by omega) (by omega), h783, z1, mb3_s]
    | succ r ih =>
      intro i q B hi hq h6 h858 hfr
      obtain ⟨q', rfl⟩ : ∃ y, q = y + 1 := ⟨q - 1, by omega⟩
      have un : fX19_codeOf_h52 fu (sI f) (sL n) (q' + 1) (sI i, B, L) = fX19_codeOf_i52 fu (sI f) (sL n) (fX19_codeOf_h52 fu (sI f) (sL n) q') (sI i) B L := rfl
      rw [un]
      unfold fX19_codeOf_i52
      obtain ⟨o1, o2⟩ := ho i (by omega)
      obtain ⟨B', k1, k2, k3, k4⟩ := step B (9 + i) ((sI (oc i)).toInt8.toInt32) (by omega) (by
        rw [by_n o2]
        unfold vS
        rw [if_neg (by omega), if_neg (by omega), show 9 + i - 9 = i from by omega]) h6 h858 hfr
      rw [if_neg (by rw [sI_lle (by decide) (by omega)]; omega), mck_s (by omega) (by omega), sI_nn (by omega), hfr 926 i (by omega) (by omega), o1, k1, mb2_s, mlet_e, sI_1]
      exact ih (i + 1) q' B' (by omega) (by omega) k2 k3 k4
  have mid : ∀ (r j q : Nat) (B : mwM), j + r = 8 → r < q → B 854 6 = sI (1 + j) → (∀ x, x < 1 + j → B 858 x = sI (vS P n oc x)) → (∀ a y, ¬ (a = 854 ∧ (y = 0 ∨ y = 6 ∨ y = 7)) → a ≠ 858 → B a y = M a y) → ∃ M', fX19_codeOf_h17 fu (sI f) (sL n) q (sI j, B, L) = some (M', L) ∧ bytes M' 859 4 (cmac S (scN S key) 12 (vS P n oc)) ∧ M' 854 6 = 0 ∧ M' 854 7 = 4 ∧ ∀ a y, ¬ (a = 854 ∧ (y = 0 ∨ y = 6 ∨ y = 7)) → a ≠ 858 → a ≠ 859 → ¬ (863 ≤ a ∧ a ≤ 867) → M' a y = M a y := by
    intro r
    induction r with
    | zero =>
      intro j q B hj hq h6 h858 hfr
      obtain ⟨q', rfl⟩ : ∃ y, q = y + 1 := ⟨q - 1, by omega⟩
      have un : fX19_codeOf_h17 fu (sI f) (sL n) (q' + 1) (sI j, B, L) = fX19_codeOf_i17 fu (sI f) (sL n) (fX19_codeOf_h17 fu (sI f) (sL n) q') (sI j) B L := rfl
      rw [un]
      unfold fX19_codeOf_i17
      rw [if_pos (by rw [sI_lle (by decide) (by omega)]; omega)]
      have ej : j = 8 := by omega
      subst ej
      exact last 3 0 fu B (by omega) (by omega) h6 h858 hfr
    | succ r ih =>
      intro j q B hj hq h6 h858 hfr
      obtain ⟨q', rfl⟩ : ∃ y, q = y + 1 := ⟨q - 1, by omega⟩
      have un : fX19_codeOf_h17 fu (sI f) (sL n) (q' + 1) (sI j, B, L) = fX19_codeOf_i17 fu (sI f) (sL n) (fX19_codeOf_h17 fu (sI f) (sL n) q') (sI j) B L := rfl
      rw [un]
      unfold fX19_codeOf_i17
      rw [if_neg (by rw [sI_lle (by decide) (by omega)]; omega), e56 j (by omega)]
      obtain ⟨B', k1, k2, k3, k4⟩ := step B (1 + j) (((sL n >>> ((sI (56 - 8 * j)).toInt64 &&& 63)).toInt32).toInt8.toInt32) (by omega) (by
        rw [i8_255, ← i64_255, ssh64 (sL n) _ (by omega), uL_s hn]
        unfold vS
        rw [if_neg (by omega), if_pos (by omega), show 8 * (8 - (1 + j)) = 56 - 8 * j from by omega]) h6 h858 hfr
      rw [k1, mb2_s, mlet_e, sI_1]
      exact ih (j + 1) q' B' (by omega) (by omega) k2 k3 k4
  unfold DX19_codeOf
  obtain ⟨B', k1, k2, k3, k4⟩ := step M 0 ((sI P).toInt8.toInt32) (by omega) (by rw [by_n (by omega)]; rfl) c5 (fun x hx => by omega) (fun _ _ _ _ => rfl)
  rw [mck_s hf (by omega), sI_nn (by omega), h784, k1, mb2_s]
  exact mid 8 0 fu B' (by omega) (by omega) k2 k3 k4
