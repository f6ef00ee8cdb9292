/-! what others do leaves the bus as it is -/
theorem NdR_w {A A' M M' : mwM} {F : Nat} {ow id : Nat → Nat} {oc : Nat → Nat → Nat} {dn : Nat → Nat} {m t ecn tcn : Nat} (hm : m < 7) (h : NdR A M F ow id oc dn m t ecn tcn) (hA : ∀ a y, 20 ≤ a → a ≤ 60 → A' a y = A a y) (hM : ∀ a y, 821 ≤ a → a ≤ 853 → ¬ (a = 821 ∧ y = 0) → M' a y = M a y) : NdR A' M' F ow id oc dn m t ecn tcn := by
  rcases h with ⟨h1, h2, h3, h4⟩ | ⟨f, K, f1, f2, f3, f4, f5, f6, f7, f8, f9, f10, f11, f12, f13, f14, f15⟩ | ⟨s, K, k1, k2, k3, k4, k5⟩ | ⟨st, lf, g1, g2, g3, g4, g5, g6, g7, g8, g9⟩
  · exact Or.inl ⟨by rw [hA 25 m (by omega) (by omega)]; exact h1, by rw [hM 831 m (by omega) (by omega) (by omega)]; exact h2, h3, h4⟩
  · exact Or.inr (Or.inl ⟨f, K, f1, f2, f3, by rw [hA 25 m (by omega) (by omega)]; exact f4, by rw [hM 831 m (by omega) (by omega) (by omega)]; exact f5, by rw [hA 27 m (by omega) (by omega)]; exact f6, by rw [hM 833 m (by omega) (by omega) (by omega)]; exact f7, by rw [hA 28 m (by omega) (by omega)]; exact f8, by rw [hM 836 m (by omega) (by omega) (by omega)]; exact f9, f10, f11, WvR_fr f12 (fun x y u => hA x y (by omega) (by omega)), fun i u1 u2 => by rw [hM 837 _ (by omega) (by omega) (by omega)]; exact f13 i u1 u2, f14, f15⟩)
  · exact Or.inr (Or.inr (Or.inl ⟨s, K, by rw [hA 25 m (by omega) (by omega)]; exact k1, by rw [hM 831 m (by omega) (by omega) (by omega)]; exact k2, LiR_fr k3 (fun x y u => hA x y (by omega) (by omega)) (fun x y u => hM x y (by omega) (by omega) (by omega)), k4, k5⟩))
  · exact Or.inr (Or.inr (Or.inr ⟨st, lf, g1, g2, by rw [hA 25 m (by omega) (by omega)]; exact g3, by rw [hM 831 m (by omega) (by omega) (by omega)]; exact g4, fun z => by rw [hA 26 m (by omega) (by omega), hM 832 m (by omega) (by omega) (by omega)]; exact g5 z, g6, g7, g8, g9⟩))
theorem BusR_fr {A A' M M' : mwM} {N t F : Nat} {ow id : Nat → Nat} {oc : Nat → Nat → Nat} {dn ec tc fl : Nat → Nat} {asl : Bool} (h : BusR A M N t F ow id oc dn ec tc fl asl) (hA : ∀ a y, 20 ≤ a → a ≤ 60 → A' a y = A a y) (hM : ∀ a y, 821 ≤ a → a ≤ 853 → ¬ (a = 821 ∧ y = 0) → M' a y = M a y) : BusR A' M' N t F ow id oc dn ec tc fl asl := by
  obtain ⟨⟨h1, ⟨h2, h3, h4⟩, h5, h6, h7, h8, ⟨h9, h10, h11⟩, ⟨h12, h13⟩, h14, h15, ⟨tn, h16, h17⟩, h18⟩, hd, hO, hF, ⟨k1, k2⟩, k3⟩ := h
  refine ⟨⟨h1, ⟨by rw [hA 20 8 (by omega) (by omega)]; exact h2, by rw [hM 821 1 (by omega) (by omega) (by omega)]; exact h3, by rw [hM 821 2 (by omega) (by omega) (by omega)]; exact h4⟩, FrC_fr h5 (fun a y u => hA a y (by omega) (by omega)), FrM_fr h6 (fun a y u => hM a y (by omega) (by omega) (by omega)), WC_fr h7 (fun a y u => hM a y (by omega) (by omega) (by omega)), CA_fr h8 (fun a y u => hM a y (by omega) (by omega) (by omega)), ⟨by rw [hA 20 10 (by omega) (by omega)]; exact h9, by rw [hM 821 29 (by omega) (by omega) (by omega)]; exact h10, fun i u => ?_⟩, ⟨by rw [hA 20 11 (by omega) (by omega)]; exact h12, by rw [hM 821 11 (by omega) (by omega) (by omega)]; exact h13⟩, fun n u => ?_, by rw [hM 821 22 (by omega) (by omega) (by omega)]; exact h15, ⟨tn, fun k u => by rw [hM 839 k (by omega) (by omega) (by omega)]; exact h16 k u, h17⟩, h18⟩, fun n hn => NdR_w (by omega) (hd n hn) hA hM, fun n hn => ?_, fun x hx => ?_, ⟨by rw [hA 20 13 (by omega) (by omega)]; exact k1, fun z n hn => ?_⟩, fun i hi => ?_⟩
  · obtain ⟨k, n, tt, q1, q2, q3, q4, q5, q6, q7⟩ := h11 i u
    exact ⟨k, n, tt, q1, q2, q3, by rw [hA 23 i (by omega) (by omega)]; exact q4, by rw [hM 845 i (by omega) (by omega) (by omega)]; exact q5, by rw [hM 846 i (by omega) (by omega) (by omega)]; exact q6, by rw [hM 847 i (by omega) (by omega) (by omega)]; exact q7⟩
  · obtain ⟨q1, q2, q3, q4⟩ := h14 n u
    exact ⟨by rw [hA 30 n (by omega) (by omega)]; exact q1, by rw [hA 31 n (by omega) (by omega)]; exact q2, by rw [hM 834 n (by omega) (by omega) (by omega)]; exact q3, by rw [hM 835 n (by omega) (by omega) (by omega)]; exact q4⟩
  · obtain ⟨o, ho⟩ := hO n hn
    exact ⟨o, OcR_f ho (fun y => hA _ y (by omega) (by omega))⟩
  · obtain ⟨q1, q2, q3⟩ := hF x hx
    exact ⟨by rw [hA 22 x (by omega) (by omega)]; exact q1, q2, fun n hn => by rw [hM 838 _ (by omega) (by omega) (by omega)]; exact q3 n hn⟩
  · rw [hA 25 n (by omega) (by omega), hA 30 n (by omega) (by omega)]
    exact k2 z n hn
  · rw [hA 21 i (by omega) (by omega), hM 822 i (by omega) (by omega) (by omega)]
    exact k3 i hi
theorem i64_255 (y : Int64) : (y &&& 255).toInt32 = y.toInt32 &&& 255 := by
  apply Int32.toBitVec_inj.mp
  rw [Int64.toBitVec_toInt32, sx32]
  show ((y.toBitVec &&& (255 : Int64).toBitVec).setWidth 32) = y.toInt32.toBitVec &&& (255 : Int32).toBitVec
  rw [Int64.toBitVec_toInt32, sx32, BitVec.setWidth_and]
  rfl
/-- the code of a frame, as the reference makes it -/
theorem m_codeF {fu f n P key : Nat} {A M : mwM} {L : mwL} {S oc : Nat → Nat} (hfu : 200 ≤ fu) (hf : f < 40) (hn : n < 2000000000) (hP : P < 40) (h784 : M 784 f = sI P) (h783 : M 783 f = sI key) (hk1 : 1 ≤ key) (hk2 : key ≤ 16) (hC : RCd A M S) (ho : ∀ i, i < 3 → M 926 i = sI (oc i) ∧ oc i < 256) : ∃ M', DX19_codeOf fu (sI f) (sL n) M L = some (M', L) ∧ bytes M' 859 4 (cmac S (scN S key) 12 (vS P n oc)) ∧ M' 854 6 = 0 ∧ M' 854 7 = 4 ∧ ∀ a y, ¬ (a = 854 ∧ (y = 0 ∨ y = 6 ∨ y = 7)) → a ≠ 858 → a ≠ 859 → ¬ (863 ≤ a ∧ a ≤ 867) → M' a y = M a y := by
  obtain ⟨c1, c2, c3, c4, c5, c6, c7⟩ := hC
  -- one octet more
  have step : ∀ (B : mwM) (m : Nat) (z : Int32), m < 12 → z &&& 255 = sI (vS P n oc m) → B 854 6 = sI m → (∀ x, x < m → B 858 x = sI (vS P n oc x)) → (∀ a y, ¬ (a = 854 ∧ (y = 0 ∨ y = 6 ∨ y = 7)) → a ≠ 858 → B a y = M a y) → ∃ B', DX14_octet fu z B L = some (B', L) ∧ B' 854 6 = sI (m + 1) ∧ (∀ x, x < m + 1 → B' 858 x = sI (vS P n oc x)) ∧ ∀ a y, ¬ (a = 854 ∧ (y = 0 ∨ y = 6 ∨ y = 7)) → a ≠ 858 → B' a y = M a y := by
    intro B m z hm hz h6 h858 hf
    refine ⟨_, m_octet (by omega) h6 (vS_lt (by omega) (fun i hi => (ho i hi).2) m hm) z hz, by rw [mset_s], fun x hx => ?_, fun a y w1 w2 => by rw [mset_n (by omega), mset_n (by omega), mset_n (by omega)]; exact hf a y w1 w2⟩
    by_cases e : x = m
    · rw [e, mset_n (by omega), mset_s]
    · rw [mset_n (by omega), mset_n (by omega), mset_n (by omega)]
      exact h858 x (by omega)
  have last : ∀ (r i q : Nat) (B : mwM), i + r = 3 → r < q → B 854 6 = sI (9 + i) → (∀ x, x < 9 + i → B 858 x = sI (vS P n oc x)) → (∀ a y, ¬ (a = 854 ∧ (y = 0 ∨ y = 6 ∨ y = 7)) → a ≠ 858 → B a y = M a y) → ∃ M', fX19_codeOf_h52 fu (sI f) (sL n) q (sI i, B, L) = some (M', L) ∧ bytes M' 859 4 (cmac S (scN S key) 12 (vS P n oc)) ∧ M' 854 6 = 0 ∧ M' 854 7 = 4 ∧ ∀ a y, ¬ (a = 854 ∧ (y = 0 ∨ y = 6 ∨ y = 7)) → a ≠ 858 → a ≠ 859 → ¬ (863 ≤ a ∧ a ≤ 867) → M' a y = M a y := by
    intro r
    induction r with
    | zero =>
      intro i q B hi hq h6 h858 hfr
      obtain ⟨q', rfl⟩ : ∃ y, q = y + 1 := ⟨q - 1, by omega⟩
      have ei : i = 3 := by omega
      subst ei
      have hm := m_code (fu := fu) (L := L) (M := B) (k := key) (n := 12) (S := S) (k0 := fun i => key + i) (v := vS P n oc) (by omega) hk1 hk2 (by omega) (by omega) (by rw [hfr _ _ (by omega) (by omega)]; exact c4) h6 (fun i u => by rw [hfr _ _ (by omega) (by omega)]; exact c3 i u) (fun i u => by rw [hfr _ _ (by omega) (by omega)]; exact ⟨c6 key hk1 hk2 i u, by omega⟩) (fun x hx => ⟨h858 x hx, vS_lt (by omega) (fun i hi => (ho i hi).2) x hx⟩)
      obtain ⟨⟨z0, M', L'⟩, z1, z2, z3, z4, z5, z6⟩ := hm
      dsimp only at z2 z3 z4 z5 z6
      subst z2
      refine ⟨M', ?_, z3, z4, z5, fun a y w1 w2 w3 w4 => by rw [z6 a y w1 w3 w4]; exact hfr a y w1 w2⟩
      show fX19_codeOf_i52 fu (sI f) (sL n) (fX19_codeOf_h52 fu (sI f) (sL n) q') (sI 3) B L' = _
      unfold fX19_codeOf_i52
      rw [if_pos (by decide), mck_s hf (by omega), sI_nn (by omega), hfr 783 f (by omega) (by omega), h783, z1, mb3_s]
    | succ r ih =>
      intro i q B hi hq h6 h858 hfr
      obtain ⟨q', rfl⟩ : ∃ y, q = y + 1 := ⟨q - 1, by omega⟩
      have un : fX19_codeOf_h52 fu (sI f) (sL n) (q' + 1) (sI i, B, L) = fX19_codeOf_i52 fu (sI f) (sL n) (fX19_codeOf_h52 fu (sI f) (sL n) q') (sI i) B L := rfl
      rw [un]
      unfold fX19_codeOf_i52
      obtain ⟨o1, o2⟩ := ho i (by omega)
      obtain ⟨B', k1, k2, k3, k4⟩ := step B (9 + i) ((sI (oc i)).toInt8.toInt32) (by omega) (by
        rw [by_n o2]
        unfold vS
        rw [if_neg (by omega), if_neg (by omega), show 9 + i - 9 = i from by omega]) h6 h858 hfr
      rw [if_neg (by rw [sI_lle (by decide) (by omega)]; omega), mck_s (by omega) (by omega), sI_nn (by omega), hfr 926 i (by omega) (by omega), o1, k1, mb2_s, mlet_e, sI_1]
      exact ih (i + 1) q' B' (by omega) (by omega) k2 k3 k4
  have mid : ∀ (r j q : Nat) (B : mwM), j + r = 8 → r < q → B 854 6 = sI (1 + j) → (∀ x, x < 1 + j → B 858 x = sI (vS P n oc x)) → (∀ a y, ¬ (a = 854 ∧ (y = 0 ∨ y = 6 ∨ y = 7)) → a ≠ 858 → B a y = M a y) → ∃ M', fX19_codeOf_h17 fu (sI f) (sL n) q (sI j, B, L) = some (M', L) ∧ bytes M' 859 4 (cmac S (scN S key) 12 (vS P n oc)) ∧ M' 854 6 = 0 ∧ M' 854 7 = 4 ∧ ∀ a y, ¬ (a = 854 ∧ (y = 0 ∨ y = 6 ∨ y = 7)) → a ≠ 858 → a ≠ 859 → ¬ (863 ≤ a ∧ a ≤ 867) → M' a y = M a y := by
    intro r
    induction r with
    | zero =>
      intro j q B hj hq h6 h858 hfr
      obtain ⟨q', rfl⟩ : ∃ y, q = y + 1 := ⟨q - 1, by omega⟩
      have un : fX19_codeOf_h17 fu (sI f) (sL n) (q' + 1) (sI j, B, L) = fX19_codeOf_i17 fu (sI f) (sL n) (fX19_codeOf_h17 fu (sI f) (sL n) q') (sI j) B L := rfl
      rw [un]
      unfold fX19_codeOf_i17
      rw [if_pos (by rw [sI_lle (by decide) (by omega)]; omega)]
      have ej : j = 8 := by omega
      subst ej
      exact last 3 0 fu B (by omega) (by omega) h6 h858 hfr
    | succ r ih =>
      intro j q B hj hq h6 h858 hfr
      obtain ⟨q', rfl⟩ : ∃ y, q = y + 1 := ⟨q - 1, by omega⟩
      have un : fX19_codeOf_h17 fu (sI f) (sL n) (q' + 1) (sI j, B, L) = fX19_codeOf_i17 fu (sI f) (sL n) (fX19_codeOf_h17 fu (sI f) (sL n) q') (sI j) B L := rfl
      rw [un]
      unfold fX19_codeOf_i17
      rw [if_neg (by rw [sI_lle (by decide) (by omega)]; omega), e56 j (by omega)]
      obtain ⟨B', k1, k2, k3, k4⟩ := step B (1 + j) (((sL n >>> ((sI (56 - 8 * j)).toInt64 &&& 63)).toInt32).toInt8.toInt32) (by omega) (by
        rw [i8_255, ← i64_255, ssh64 (sL n) _ (by omega), uL_s hn]
        unfold vS
        rw [if_neg (by omega), if_pos (by omega), show 8 * (8 - (1 + j)) = 56 - 8 * j from by omega]) h6 h858 hfr
      rw [k1, mb2_s, mlet_e, sI_1]
      exact ih (j + 1) q' B' (by omega) (by omega) k2 k3 k4
  unfold DX19_codeOf
  obtain ⟨B', k1, k2, k3, k4⟩ := step M 0 ((sI P).toInt8.toInt32) (by omega) (by rw [by_n (by omega)]; rfl) c5 (fun x hx => by omega) (fun _ _ _ _ => rfl)
  rw [mck_s hf (by omega), sI_nn (by omega), h784, k1, mb2_s]
  exact mid 8 0 fu B' (by omega) (by omega) k2 k3 k4
/-! a frame is sealed -/
theorem a255 {n : Nat} (h : n < 2000000000) : sI n &&& 255 = sI (n % 256) := by rw [and255, uI_s h]
def cdF (Sb : Nat → Nat) (key P n : Nat) (oc : Nat → Nat) (i : Nat) : Nat := cmac Sb (scN Sb key) 12 (vS P n oc) i
theorem c_seal {fu f n P key : Nat} {A M : mwM} {L : mwL} {Sb oc : Nat → Nat} (hfu : 200 ≤ fu) (hf : f < 40) (hn : n < 2000000000) (hP : P < 40) (h77 : A 77 f = sI n) (h78 : A 78 f = sI P) (h76 : A 76 f = sI key) (hk2 : key < 17) (hC : RCd A M Sb) (hK : KnC A Sb key) (ho : ∀ i, i < 3 → A 95 i = sI (oc i) ∧ oc i < 256) : ∃ A', DX6_seal fu (sI f) A L = some (A', L) ∧ (∀ i, i < 3 → A' 95 i = sI (oc i)) ∧ A' 95 3 = sI (n % 256) ∧ (∀ i, i < 4 → A' 95 (4 + i) = sI (cdF Sb key P n oc i) ∧ cdF Sb key P n oc i < 256) ∧ ∀ a y, ¬ (a = 95 ∧ y < 8) → a ≠ 96 → a ≠ 137 → a ≠ 138 → A' a y = A a y := by
  unfold DX6_seal
  have e3 : (3 : Int32).toNatClampNeg = 3 := rfl
  have t9 : ∀ a y, ¬ (a = 95 ∧ y = 3) → mset A 95 3 (sI (n % 256)) a y = A a y := fun a y w => mset_n w
  obtain ⟨B, b1, b2, b3⟩ := c_makeCode (fu := fu) (f := f) (n := n) (P := P) (key := key) (row := 95) (n3 := 8) (A := mset A 95 3 (sI (n % 256))) (M := M) (L := L) (S := Sb) (oc := oc) hfu hf hn hP (by rw [t9 _ _ (by omega)]; exact h78) (by rw [t9 _ _ (by omega)]; exact h76) hk2 (RCd_fr hC (fun a y _ _ => t9 a y (by omega)) (fun _ _ _ => rfl)) (by
    obtain ⟨k1, k2, k3⟩ := hK
    exact ⟨by rw [t9 _ _ (by omega)]; exact k1, fun i u => by rw [t9 _ _ (by omega)]; exact k2 i u, fun i u => by rw [t9 _ _ (by omega)]; exact k3 i u⟩) (by omega) (by omega) (by omega) (by omega) (fun i hi => by rw [t9 _ _ (by omega)]; exact ho i hi)
  rw [mck_s hf (by omega), mlet_e, sI_nn (show f < 2000000000 by omega), h77, a255 hn, e3, mck_s hf (by omega), t9 77 f (by omega), h77, b1, mb2_s]
  have key1 : ∀ (r i q : Nat) (C : mwM), i + r = 4 → r < q → (∀ x, x < i → C 95 (4 + x) = sI (cdF Sb key P n oc x)) → (∀ a y, ¬ (a = 95 ∧ 4 ≤ y) → C a y = B a y) → ∃ A', fX6_seal_h38 fu (sI f) q (sI i, C, L) = some (A', L) ∧ (∀ x, x < 4 → A' 95 (4 + x) = sI (cdF Sb key P n oc x)) ∧ ∀ a y, ¬ (a = 95 ∧ 4 ≤ y ∧ y < 8) → A' a y = C a y := by
    intro r
    induction r with
    | zero =>
      intro i q C hi hq h1 h2
      obtain ⟨q', rfl⟩ : ∃ y, q = y + 1 := ⟨q - 1, by omega⟩
      refine ⟨C, ?_, fun x hx => h1 x (by omega), fun _ _ _ => rfl⟩
      show fX6_seal_i38 fu (sI f) (fX6_seal_h38 fu (sI f) q') (sI i) C L = _
      unfold fX6_seal_i38
      rw [if_pos (by rw [sI_lle (by decide) (by omega)]; omega)]
    | succ r ih =>
      intro i q C hi hq h1 h2
      obtain ⟨q', rfl⟩ : ∃ y, q = y + 1 := ⟨q - 1, by omega⟩
      have un : fX6_seal_h38 fu (sI f) (q' + 1) (sI i, C, L) = fX6_seal_i38 fu (sI f) (fX6_seal_h38 fu (sI f) q') (sI i) C L := rfl
      rw [un]
      unfold fX6_seal_i38
      rw [if_neg (by rw [sI_lle (by decide) (by omega)]; omega), mck_s (by omega) (by omega), sI_lad, mck_s (by omega) (by omega), mlet_e, mlet_e, sI_nn (by omega), sI_nn (by omega), h2 138 i (by omega), (b2 i (by omega)).1, sI_1]
      obtain ⟨A', k1, k2, k3⟩ := ih (i + 1) q' (mset C 95 (4 + i) (sI (cmac Sb (scN Sb key) 12 (vS P n oc) i))) (by omega) (by omega) (fun x hx => by
        by_cases e : x = i
        · rw [e, mset_s]; rfl
        · rw [mset_n (by omega)]; exact h1 x (by omega)) (fun a y w => by rw [mset_n (by omega)]; exact h2 a y w)
      exact ⟨A', k1, k2, fun a y w => by rw [k3 a y w, mset_n (by omega)]⟩
  obtain ⟨A', k1, k2, k3⟩ := key1 4 0 fu B (by omega) (by omega) (fun x hx => by omega) (fun _ _ _ => rfl)
  refine ⟨A', k1, fun i hi => ?_, ?_, fun i hi => ⟨k2 i hi, (b2 i (by omega)).2⟩, fun a y w1 w2 w3 w4 => ?_⟩
  · rw [k3 _ _ (by omega), b3 _ _ (by omega) (by omega) (by omega), t9 _ _ (by omega)]
    exact (ho i hi).1
  · rw [k3 _ _ (by omega), b3 _ _ (by omega) (by omega) (by omega), mset_s]
  · rw [k3 a y (by omega), b3 a y w2 w3 w4, t9 a y (by omega)]
/-- the reference: behind the octets of a frame -/
theorem m_seal {fu f n P key k : Nat} {x : Int32} {A M : mwM} {L : mwL} {Sb oc : Nat → Nat} (hfu : 200 ≤ fu) (hf : f < 40) (hn : n < 1000000) (hP : P < 40) (h785 : M 785 f = sI n) (h784 : M 784 f = sI P) (h783 : M 783 f = sI key) (hk2 : key ≤ 16) (hC : RCd A M Sb) (ho : ∀ i, i < 8 → M 926 i = sI (oc i) ∧ oc i < 256) : ∃ M', fX19_send_i87 fu (sI f) (fun _ => none) k x 8 M L = fX19_send_b217 fu (sI f) M' L ∧ M' 785 f = sI (n + 1) ∧ (key = 0 → ∀ i, i < 8 → M' 926 i = sI (oc i)) ∧ (key ≠ 0 → (∀ i, i < 3 → M' 926 i = sI (oc i)) ∧ M' 926 3 = sI ((n + 1) % 256) ∧ ∀ i, i < 4 → M' 926 (4 + i) = sI (cdF Sb key P (n + 1) oc i)) ∧ RCd A M' Sb ∧ ∀ a y, ¬ (a = 785 ∧ y = f) → ¬ (a = 926 ∧ y < 8) → ¬ (a = 854 ∧ (y = 0 ∨ y = 6 ∨ y = 7)) → a ≠ 858 → a ≠ 859 → ¬ (863 ≤ a ∧ a ≤ 867) → M' a y = M a y := by
  have t1 : ∀ a y, ¬ (a = 785 ∧ y = f) → mset M 785 f (sI (n + 1)) a y = M a y := fun a y w => mset_n w
  have e3 : (3 : Int32).toNatClampNeg = 3 := rfl
  unfold fX19_send_i87
  rw [if_pos (by decide), mck_s hf (by omega), mck_s hf (by omega), mlet_e, sI_nn (show f < 2000000000 by omega), h785, sI_1, mck_s hf (by omega), t1 783 f (by omega), h783]
  by_cases z : key = 0
  · rw [if_pos (by rw [z]; decide)]
    exact ⟨_, rfl, by rw [mset_s], fun _ i hi => by rw [t1 _ _ (by omega)]; exact (ho i hi).1, fun w => absurd z w, RCd_fr hC (fun _ _ _ _ => rfl) (fun a y w => t1 a y (by omega)), fun a y w1 _ _ _ _ _ => t1 a y w1⟩
  · rw [if_neg (by rw [sI_lel (by omega) (by decide)]; omega), mck_s hf (by omega), mset_s, a255 (by omega), e3, mlet_e, mck_s hf (by omega)]
    generalize hB : mset (mset M 785 f (sI (n + 1))) 926 3 (sI ((n + 1) % 256)) = B
    have tB : ∀ a y, ¬ (a = 785 ∧ y = f) → ¬ (a = 926 ∧ y = 3) → B a y = M a y := fun a y w1 w2 => by rw [← hB, mset_n w2, mset_n w1]
    have b785 : B 785 f = sI (n + 1) := by rw [← hB, mset_n (by omega), mset_s]
    rw [b785, sI_L (by omega)]
    obtain ⟨C, c1, c2, c3, c4, c5⟩ := m_codeF (fu := fu) (f := f) (n := n + 1) (P := P) (key := key) (A := A) (M := B) (L := L) (S := Sb) (oc := oc) hfu hf (by omega) hP (by rw [tB _ _ (by omega) (by omega)]; exact h784) (by rw [tB _ _ (by omega) (by omega)]; exact h783) (by omega) hk2 (RCd_fr hC (fun _ _ _ _ => rfl) (fun a y w => tB a y (by omega) (by omega))) (fun i hi => by rw [tB _ _ (by omega) (by omega)]; exact ho i (by omega))
    rw [c1, mb2_s]
    have key1 : ∀ (r i q : Nat) (D : mwM), i + r = 4 → r < q → (∀ x, x < i → D 926 (4 + x) = sI (cdF Sb key P (n + 1) oc x)) → (∀ a y, ¬ (a = 926 ∧ 4 ≤ y) → ¬ (a = 854 ∧ y = 0) → D a y = C a y) → ∃ M', fX19_send_h183 fu (sI f) q (sI i, D, L) = fX19_send_b217 fu (sI f) M' L ∧ (∀ x, x < 4 → M' 926 (4 + x) = sI (cdF Sb key P (n + 1) oc x)) ∧ ∀ a y, ¬ (a = 926 ∧ 4 ≤ y ∧ y < 8) → ¬ (a = 854 ∧ y = 0) → M' a y = D a y := by
      intro r
      induction r with
      | zero =>
        intro i q D hi hq h1 h2
        obtain ⟨q', rfl⟩ : ∃ y, q = y + 1 := ⟨q - 1, by omega⟩
        refine ⟨D, ?_, fun x hx => h1 x (by omega), fun _ _ _ _ => rfl⟩
        show fX19_send_i183 fu (sI f) (fX19_send_h183 fu (sI f) q') (sI i) D L = _
        unfold fX19_send_i183
        rw [if_pos (by rw [sI_lle (by decide) (by omega)]; omega)]
      | succ r ih =>
        intro i q D hi hq h1 h2
        obtain ⟨q', rfl⟩ : ∃ y, q = y + 1 := ⟨q - 1, by omega⟩
        have un : fX19_send_h183 fu (sI f) (q' + 1) (sI i, D, L) = fX19_send_i183 fu (sI f) (fX19_send_h183 fu (sI f) q') (sI i) D L := rfl
        rw [un]
        obtain ⟨d1, d2⟩ := c2 i (by omega)
        obtain ⟨z, z1, z2⟩ := m_out (fu := fu) (M := D) (L := L) (i := i) (by omega) (by rw [h2 _ _ (by omega) (by omega)]; exact c4) (by rw [h2 _ _ (by omega) (by omega)]; exact d1) d2
        unfold fX19_send_i183
        rw [if_neg (by rw [sI_lle (by decide) (by omega)]; omega), z1, mb3_s, sI_lad, mck_s (by omega) (by omega), mlet_e, mlet_e, sI_nn (by omega), z2, sI_1]
        obtain ⟨M', k1, k2, k3⟩ := ih (i + 1) q' (mset (mset D 854 0 0) 926 (4 + i) (sI (cmac Sb (scN Sb key) 12 (vS P (n + 1) oc) i))) (by omega) (by omega) (fun x hx => by
          by_cases e : x = i
          · rw [e, mset_s]; rfl
          · rw [mset_n (by omega), mset_n (by omega)]; exact h1 x (by omega)) (fun a y w1 w2 => by rw [mset_n (by omega), mset_n (by omega)]; exact h2 a y w1 w2)
        exact ⟨M', k1, k2, fun a y w1 w2 => by rw [k3 a y w1 w2, mset_n (by omega), mset_n (by omega)]⟩
    obtain ⟨M', k1, k2, k3⟩ := key1 4 0 fu C (by omega) (by omega) (fun x hx => by omega) (fun _ _ _ _ => rfl)
    refine ⟨M', k1, ?_, fun w => absurd w z, fun _ => ⟨fun i hi => ?_, ?_, k2⟩, ?_, fun a y w1 w2 w3 w4 w5 w6 => ?_⟩
    · rw [k3 _ _ (by omega) (by omega), c5 _ _ (by omega) (by omega) (by omega) (by omega)]; exact b785
    · rw [k3 _ _ (by omega) (by omega), c5 _ _ (by omega) (by omega) (by omega) (by omega), tB _ _ (by omega) (by omega)]; exact (ho i (by omega)).1
    · rw [k3 _ _ (by omega) (by omega), c5 _ _ (by omega) (by omega) (by omega) (by omega), ← hB, mset_s]
    · refine RCd_fr hC (fun _ _ _ _ => rfl) (fun a y w => ?_)
      by_cases e : a = 854 ∧ y = 6
      · rw [e.1, e.2, k3 _ _ (by omega) (by omega), c3]
        exact hC.2.2.2.2.1.symm
      · rw [k3 _ _ (by omega) (by omega), c5 _ _ (by omega) (by omega) (by omega) (by omega), tB _ _ (by omega) (by omega)]
    · rw [k3 a y (by omega) (by omega), c5 a y w3 w4 w5 w6, tB a y w1 (by omega)]
/-! frames as both sides keep them while the car runs -/
def FrS (A M : mwM) (S F : Nat) (d : Nat → Nat → Nat) (tu : Nat → Bool) : Prop :=
  A 61 10 = sI S ∧ M 732 45 = sI S ∧ S ≤ 40 ∧ A 61 11 = sI F ∧ M 732 67 = sI F ∧ F ≤ 40 ∧
  (∀ f, f < F → FrT A M f (d 10 f) (d 11 f) (d 12 f) (d 13 f) ∧ A 78 f = sI (posf (d 11) F f) ∧ A 80 (posf (d 11) F f) = sI f ∧ M 784 f = sI (posf (d 11) F f)) ∧
  (∀ s, s < S → d 6 s < F ∧ d 10 (d 6 s) = d 2 s ∧ d 11 (d 6 s) = d 1 s ∧ d 12 (d 6 s) = d 3 s ∧ SgT A M s (d 6 s) (d 7 s) (d 8 s) (d 9 s) (d 0 s) (tu s) (d 2 s) (d 3 s) (d 13 (d 6 s)) ∧ A 63 s = sI (d 0 s) ∧ M 761 s = sI (d 0 s) ∧ 1 ≤ d 0 s ∧ d 0 s ≤ 64 ∧ A 67 s = bI (tu s) ∧ M 765 s = bI (tu s) ∧ A 64 s = sI (d 4 s) ∧ M 762 s = sI (d 4 s) ∧ d 4 s < 12 ∧ A 65 s = sI (d 5 s) ∧ M 763 s = sI (d 5 s) ∧ d 5 s < 32 ∧ A 66 s = sI (d 1 s) ∧ M 764 s = sI (d 1 s) ∧ 500 ≤ d 1 s ∧ d 1 s ≤ 20000) ∧
  FiD S (d 0) (d 6) (d 7) ∧ ∀ f g, f < F → g < F → pkn (d 10 f) (d 12 f) = pkn (d 10 g) (d 12 g) → d 13 f = d 13 g → f = g
theorem pkn_12 {c y : Nat} (h : c < 6) : pkn c y < 12 := by unfold pkn; split <;> omega
theorem FrS_f {A A' M M' : mwM} {S F : Nat} {d : Nat → Nat → Nat} {tu : Nat → Bool} (h : FrS A M S F d tu) (hA : ∀ a y, (a = 61 ∧ (y = 10 ∨ y = 11)) ∨ (63 ≤ a ∧ a ≤ 67) ∨ a = 71 ∨ a = 72 ∨ (74 ≤ a ∧ a ≤ 76) ∨ a = 78 ∨ a = 80 → A' a y = A a y) (hM : ∀ a y, (a = 732 ∧ (y = 45 ∨ y = 67)) ∨ (761 ≤ a ∧ a ≤ 768) ∨ (779 ≤ a ∧ a ≤ 784) ∨ (941 ≤ a ∧ a < 1577 ∧ (a - 941) % 53 ≤ 14 ∧ ¬ ((a - 941) % 53 = 0 ∧ y = 0)) → M' a y = M a y) : FrS A' M' S F d tu := by
  obtain ⟨h1, h2, h3, h4, h5, h6, h7, h8, h9, h10⟩ := h
  refine ⟨by rw [hA _ _ (by omega)]; exact h1, by rw [hM _ _ (by omega)]; exact h2, h3, by rw [hA _ _ (by omega)]; exact h4, by rw [hM _ _ (by omega)]; exact h5, h6, fun f hf => ?_, fun s hs => ?_, h9, h10⟩
  · obtain ⟨⟨a1, a2, a3, a4, a5, a6, a7, a8, a9, a10, a11, a12, a13, a14, a15, a16, a17⟩, b1, b2, b3⟩ := h7 f hf
    have hp := pkn_12 (y := d 12 f) a11
    exact ⟨⟨by rw [hA _ _ (by omega)]; exact a1, by rw [hA _ _ (by omega)]; exact a2, by rw [hA _ _ (by omega)]; exact a3, by rw [hM _ _ (by omega)]; exact a4, by rw [hM _ _ (by omega)]; exact a5, by rw [hM _ _ (by omega)]; exact a6, by rw [hM _ _ (by omega)]; exact a7, by rw [hM _ _ (by omega)]; exact a8, a9, a10, a11, a12, a13, a14, by rw [hM _ _ (by omega)]; exact a15, by rw [hM _ _ (by omega)]; exact a16, by rw [hM _ _ (by omega)]; exact a17⟩, by rw [hA _ _ (by omega)]; exact b1, by rw [hA _ _ (by omega)]; exact b2, by rw [hM _ _ (by omega)]; exact b3⟩
  · obtain ⟨k1, k2, k3, k4, ⟨b1, b2, b3, b4, b5, b6, b7, b8, b9, b10, b11, b12, b13, b14, b15, b16⟩, c1, c2, c3, c4, c5, c6, c7, c8, c9, c10, c11, c12, c13, c14, c15, c16⟩ := h8 s hs
    have a11 := (h7 _ k1).1.2.2.2.2.2.2.2.2.2.2.1
    rw [k2] at a11
    have hp := pkn_12 (y := d 3 s) a11
    exact ⟨k1, k2, k3, k4, ⟨by rw [hA _ _ (by omega)]; exact b1, by rw [hA _ _ (by omega)]; exact b2, by rw [hM _ _ (by omega)]; exact b3, by rw [hM _ _ (by omega)]; exact b4, by rw [hM _ _ (by omega)]; exact b5, b6, b7, b8, b9, by rw [hM _ _ (by omega)]; exact b10, by rw [hM _ _ (by omega)]; exact b11, by rw [hM _ _ (by omega)]; exact b12, by rw [hM _ _ (by omega)]; exact b13, by rw [hM _ _ (by omega)]; exact b14, by rw [hM _ _ (by omega)]; exact b15, by rw [hM _ _ (by omega)]; exact b16⟩, by rw [hA _ _ (by omega)]; exact c1, by rw [hM _ _ (by omega)]; exact c2, c3, c4, by rw [hA _ _ (by omega)]; exact c5, by rw [hM _ _ (by omega)]; exact c6, by rw [hA _ _ (by omega)]; exact c7, by rw [hM _ _ (by omega)]; exact c8, c9, by rw [hA _ _ (by omega)]; exact c10, by rw [hM _ _ (by omega)]; exact c11, c12, by rw [hA _ _ (by omega)]; exact c13, by rw [hM _ _ (by omega)]; exact c14, c15, c16⟩
abbrev kFr (d : Nat → Nat → Nat) (f : Nat) : Nat := 941 + 53 * pkn (d 10 f) (d 12 f)
abbrev eF (d : Nat → Nat → Nat) (f : Nat) : Nat := (d 13 f - 1) * cpk (d 12 f)
abbrev HdF (M : mwM) (S : Nat) (d : Nat → Nat → Nat) (tu : Nat → Bool) (f : Nat) : Prop := HdI M S (d 0) (d 6) (d 7) tu f (kFr d f) (eF d f) (cpk (d 12 f))
theorem eF_le {i y : Nat} (h : i ≤ 40) : (i - 1) * cpk y ≤ 320 := Nat.le_trans (Nat.mul_le_mul (show i - 1 ≤ 40 by omega) cpk_8.1) (by omega)
theorem FrS_C {A M : mwM} {S F : Nat} {d : Nat → Nat → Nat} {tu : Nat → Bool} (h : FrS A M S F d tu) : FiC A S (d 0) (d 6) (d 7) (d 4) (d 5) tu := by
  obtain ⟨h1, h2, h3, h4, h5, h6, h7, h8, h9, h10⟩ := h
  refine ⟨h1, h3, fun s hs => ?_⟩
  obtain ⟨k1, k2, k3, k4, ⟨b1, b2, b3, b4, b5, b6, b7, b8, b9, b10, b11, b12, b13, b14, b15, b16⟩, c1, c2, c3, c4, c5, c6, c7, c8, c9, c10, c11, c12, c13, c14, c15, c16⟩ := h8 s hs
  have := cpk_8 (y := d 3 s)
  exact ⟨c1, c3, c4, c5, b1, by omega, b2, by show d 7 s + (d 0 s + 7) / 8 ≤ 8; omega, c7, c9, c10, c12⟩
theorem FrS_M {A M : mwM} {S F f : Nat} {d : Nat → Nat → Nat} {tu : Nat → Bool} (h : FrS A M S F d tu) (hf : f < F) : FiM M S (d 0) (d 6) (d 7) (d 4) (d 5) (d 8) (d 9) tu f (pkn (d 10 f) (d 12 f)) (d 13 f) (eF d f) (cpk (d 12 f)) (d 12 f) := by
  obtain ⟨h1, h2, h3, h4, h5, h6, h7, h8, h9, h10⟩ := h
  obtain ⟨⟨a1, a2, a3, a4, a5, a6, a7, a8, a9, a10, a11, a12, a13, a14, a15, a16, a17⟩, b1, b2, b3⟩ := h7 f hf
  refine ⟨h2, h3, a5, pkn_12 a11, a6, a9, a10, a15, rfl, a8, a12, a17, eF_le a10, fun s hs => ?_⟩
  obtain ⟨k1, k2, k3, k4, ⟨b1, b2, b3, b4, b5, b6, b7, b8, b9, b10, b11, b12, b13, b14, b15, b16⟩, c1, c2, c3, c4, c5, c6, c7, c8, c9, c10, c11, c12, c13, c14, c15, c16⟩ := h8 s hs
  refine ⟨b3, by omega, c8, c9, c11, c12, b5, fun w => ?_⟩
  rw [← k4, w] at b9
  rw [← k2, ← k4, w] at b10 b11 b12 b13 b14 b15 b16
  have := cpk_8 (y := d 12 f)
  exact ⟨b9, b10, b8, b6, b7, a16, b11, c3, c4, b12, b13, b14, b15, a9, a10, b16, a17, eF_le a10, by omega⟩
def BusE (A M : mwM) (N t : Nat) (ec tc fl : Nat → Nat) : Prop := ∃ (F : Nat) (ow id : Nat → Nat) (oc : Nat → Nat → Nat) (dn : Nat → Nat) (asl : Bool), BusR A M N t F ow id oc dn ec tc fl asl
theorem BusE_fr {A A' M M' : mwM} {N t : Nat} {ec tc fl : Nat → Nat} (h : BusE A M N t ec tc fl) (hA : ∀ a y, 20 ≤ a → a ≤ 60 → A' a y = A a y) (hM : ∀ a y, 821 ≤ a → a ≤ 853 → ¬ (a = 821 ∧ y = 0) → M' a y = M a y) : BusE A' M' N t ec tc fl := by
  obtain ⟨F, ow, id, oc, dn, asl, hB⟩ := h
  exact ⟨F, ow, id, oc, dn, asl, BusR_fr hB hA hM⟩
theorem st_sendFrame {fu f n S F N t ob : Nat} {d : Nat → Nat → Nat} {tu : Nat → Bool} {Sb ec tc fl : Nat → Nat} {A M : mwM} {Lc Lm : mwL} (hfu : 300 ≤ fu) (hS : FrS A M S F d tu) (hf : f < F) (hH : HdF M S d tu f) (hV : ∀ s, s < S → Lc (293 + 36 * d 4 s + 34) (d 5 s) = Lm (964 + 53 * d 4 s + 21) (d 5 s)) (h77 : A 77 f = sI n) (h785 : M 785 f = sI n) (hn : n < 900000) (hC : RCd A M Sb) (hK : d 12 f ≠ 0 → KnC A Sb (d 12 f)) (hB : BusE A M N t ec tc fl) (hN : d 10 f < N) (h292 : A 292 0 = M 939 0) (hob : M 732 91 = sI ob) (hob2 : ob < 6001) : ∃ A' M', DX1_sendFrame fu (sI f) A Lc = some (A', Lc) ∧ DX19_send fu (sI f) M Lm = some (M', Lm) ∧ A' 77 f = sI (n + 1) ∧ M' 785 f = sI (n + 1) ∧ RCd A' M' Sb ∧ BusE A' M' N t ec tc fl ∧ A' 292 0 = M' 939 0 ∧ HdF M' S d tu f ∧ (∀ a y, ¬ (a = 77 ∧ y = f) → ¬ (95 ≤ a ∧ a ≤ 96) → ¬ (137 ≤ a ∧ a ≤ 138) → ¬ (20 ≤ a ∧ a ≤ 60) → ¬ (a = 292 ∧ y = 0) → A' a y = A a y) ∧ ∀ a y, ¬ (a = 785 ∧ y = f) → a ≠ 926 → ¬ (a = 854 ∧ (y = 0 ∨ y = 6 ∨ y = 7)) → a ≠ 858 → a ≠ 859 → ¬ (863 ≤ a ∧ a ≤ 867) → ¬ (821 ≤ a ∧ a ≤ 853) → ¬ (a = 939 ∧ y = 0) → ¬ (a = kFr d f ∧ y = 0) → ¬ (a = kFr d f + 15 ∧ eF d f ≤ y ∧ y < eF d f + cpk (d 12 f)) → ¬ (964 ≤ a ∧ (a - 964) % 53 = 0 ∧ y = 0) → M' a y = M a y := by
  obtain ⟨h1, h2, h3, h4, h5, h6, h7, h8, h9, h10⟩ := id hS
  obtain ⟨⟨a1, a2, a3, a4, a5, a6, a7, a8, a9, a10, a11, a12, a13, a14, a15, a16, a17⟩, b1, b2, b3⟩ := h7 f hf
  have hpos := posf_lt (ev := d 11) hf
  have hcp := cpk_8 (y := d 12 f)
  have hpk := pkn_12 (y := d 12 f) a11
  have hkF : kFr d f = 941 + 53 * pkn (d 10 f) (d 12 f) := rfl
  obtain ⟨A1, c1, c2, c3, c4, c5⟩ := c_fill (fu := fu) (f := f) (L := Lc) (by omega) (by omega) (FrS_C hS) h9 (V := fun s => Lc (293 + 36 * d 4 s + 34) (d 5 s)) (fun _ _ => rfl)
  obtain ⟨M1, m1, m2, m3, m4, m5⟩ := m_sendO (fu := fu) (f := f) (L := Lm) (by omega) (by omega) (FrS_M hS hf) h9 hH (V := fun s => Lc (293 + 36 * d 4 s + 34) (d 5 s)) (fun s hs => (hV s hs).symm)
  try dsimp only at c3 m2
  -- the octets of both
  have hoc : ∃ oc : Nat → Nat, ∀ y, y < 8 → A1 95 y = sI (oc y) ∧ M1 926 y = sI (oc y) ∧ oc y < 256 := by
    have each : ∀ y, y < 8 → ∃ v, A1 95 y = sI v ∧ M1 926 y = sI v ∧ v < 256 := fun y hy => by
      rcases cover (S := S) (f := f) (y := y) (bt := d 0) (fs := d 6) (os := d 7) (tu := tu) with u | ⟨s, q, s1, s2, s3, s4⟩
      · exact ⟨0, c4 y hy u, m3 y hy u, by omega⟩
      · have w1 := c3 s s1 s2 q s3
        have w2 := m2 s s1 s2 q s3
        rw [s4] at w1 w2
        exact ⟨_, w1, w2, vq_lt⟩
    refine ⟨fun y => nn (A1 95 y), fun y hy => ?_⟩
    obtain ⟨v, v1, v2, v3⟩ := each y hy
    dsimp only
    rw [v1, v2, nn_s (by omega)]
    exact ⟨rfl, rfl, v3⟩
  obtain ⟨oc, hoc⟩ := hoc
  have tA : ∀ a y, ¬ (a = 77 ∧ y = f) → a ≠ 95 → A1 a y = A a y := fun a y w1 w2 => c5 a y w1 (by omega)
  have tM : ∀ a y, ¬ (a = kFr d f ∧ y = 0) → ¬ (a = kFr d f + 15 ∧ eF d f ≤ y ∧ y < eF d f + cpk (d 12 f)) → ¬ (964 ≤ a ∧ (a - 964) % 53 = 0 ∧ y = 0) → a ≠ 926 → M1 a y = M a y := fun a y w1 w2 w3 w4 => m5 a y w1 w2 w3 (by omega)
  have lM : ∀ a y, a < 941 → a ≠ 926 → M1 a y = M a y := fun a y w1 w2 => tM a y (by omega) (by omega) (by omega) w2
  have A77 : A1 77 f = sI (n + 1) := by rw [c2, h77, sI_1]
  have hC1 : RCd A1 M1 Sb := RCd_fr hC (fun a y w1 w2 => tA a y (by omega) (by omega)) (fun a y w => lM a y (by omega) (by omega))
  -- sealed
  have sealA : ∃ A2, (if sI (d 12 f) = 0 then fX1_sendFrame_b38 fu (sI f) A1 Lc else mb2 (DX6_seal fu (sI f) A1 Lc) (fun M18 L19 => fX1_sendFrame_b38 fu (sI f) M18 L19)) = fX1_sendFrame_b38 fu (sI f) A2 Lc ∧ (d 12 f = 0 → ∀ i, i < 8 → A2 95 i = sI (oc i)) ∧ (d 12 f ≠ 0 → (∀ i, i < 3 → A2 95 i = sI (oc i)) ∧ A2 95 3 = sI ((n + 1) % 256) ∧ ∀ i, i < 4 → A2 95 (4 + i) = sI (cdF Sb (d 12 f) (posf (d 11) F f) (n + 1) oc i) ∧ cdF Sb (d 12 f) (posf (d 11) F f) (n + 1) oc i < 256) ∧ ∀ a y, ¬ (95 ≤ a ∧ a ≤ 96) → ¬ (137 ≤ a ∧ a ≤ 138) → A2 a y = A1 a y := by
    by_cases z : d 12 f = 0
    · refine ⟨A1, by rw [if_pos (by rw [z]; rfl)], fun _ i hi => (hoc i hi).1, fun w => absurd z w, fun _ _ _ _ => rfl⟩
    · obtain ⟨k1, k2, k3⟩ := hK z
      obtain ⟨A2, q1, q2, q3, q4, q5⟩ := c_seal (fu := fu) (f := f) (n := n + 1) (P := posf (d 11) F f) (key := d 12 f) (A := A1) (M := M1) (L := Lc) (Sb := Sb) (oc := oc) (by omega) (by omega) (by omega) (by omega) A77 (by rw [tA _ _ (by omega) (by omega)]; exact b1) (by rw [tA _ _ (by omega) (by omega)]; exact a3) (by omega) hC1 ⟨by rw [tA _ _ (by omega) (by omega)]; exact k1, fun i u => by rw [tA _ _ (by omega) (by omega)]; exact k2 i u, fun i u => by rw [tA _ _ (by omega) (by omega)]; exact k3 i u⟩ (fun i hi => ⟨(hoc i (by omega)).1, (hoc i (by omega)).2.2⟩)
      refine ⟨A2, ?_, fun w => absurd w z, fun _ => ⟨q2, q3, q4⟩, fun a y w1 w2 => q5 a y (by omega) (by omega) (by omega) (by omega)⟩
      rw [if_neg (by rw [show (0 : Int32) = sI 0 from rfl, sI_eq (by omega) (by omega)]; exact z), q1, mb2_s]
  obtain ⟨A2, s1, s2, s3, s4⟩ := sealA
  obtain ⟨M2, r1, r2, r3, r4, r5, r6⟩ := m_seal (fu := fu) (f := f) (n := n) (P := posf (d 11) F f) (key := d 12 f) (k := 941 + 53 * pkn (d 10 f) (d 12 f)) (x := sI (cpk (d 12 f))) (A := A1) (M := M1) (L := Lm) (Sb := Sb) (oc := oc) (by omega) (by omega) (by omega) (by omega) (by rw [lM _ _ (by omega) (by omega)]; exact h785) (by rw [lM _ _ (by omega) (by omega)]; exact b3) (by rw [lM _ _ (by omega) (by omega)]; exact a8) a12 hC1 (fun i hi => ⟨(hoc i hi).2.1, (hoc i hi).2.2⟩)
  have h8o : ∃ q : Nat → Nat, ∀ i, i < 8 → q i < 256 ∧ A2 95 i = sI (q i) ∧ M2 926 i = sI (q i) := by
    refine ⟨fun i => nn (A2 95 i), fun i hi => ?_⟩
    have : ∃ v, v < 256 ∧ A2 95 i = sI v ∧ M2 926 i = sI v := by
      by_cases z : d 12 f = 0
      · exact ⟨oc i, (hoc i hi).2.2, s2 z i hi, r3 z i hi⟩
      · obtain ⟨u1, u2, u3⟩ := s3 z
        obtain ⟨v1, v2, v3⟩ := r4 z
        by_cases i3 : i < 3
        · exact ⟨oc i, (hoc i hi).2.2, u1 i i3, v1 i i3⟩
        · by_cases i4 : i = 3
          · subst i4
            exact ⟨_, Nat.mod_lt _ (by omega), u2, v2⟩
          · have w1 := u3 (i - 4) (by omega)
            have w2 := v3 (i - 4) (by omega)
            rw [show 4 + (i - 4) = i from by omega] at w1 w2
            exact ⟨_, w1.2, w1.1, w2⟩
    obtain ⟨v, v1, v2, v3⟩ := this
    dsimp only
    rw [v2, v3, nn_s (by omega)]
    exact ⟨v1, rfl, rfl⟩
  obtain ⟨q, hq⟩ := h8o
  obtain ⟨Fb, ow, idb, ocb, dn, asl, hBR⟩ := hB
  have hBR2 : BusR A2 M2 N t Fb ow idb ocb dn ec tc fl asl := BusR_fr hBR (fun a y w1 w2 => by rw [s4 a y (by omega) (by omega)]; exact tA a y (by omega) (by omega)) (fun a y w1 w2 w3 => by rw [r6 a y (by omega) (by omega) (by omega) (by omega) (by omega) (by omega)]; exact lM a y (by omega) (by omega))
  have gA : ∀ a y, ¬ (a = 77 ∧ y = f) → ¬ (95 ≤ a ∧ a ≤ 96) → ¬ (137 ≤ a ∧ a ≤ 138) → A2 a y = A a y := fun a y w1 w2 w3 => by rw [s4 a y w2 w3]; exact tA a y w1 (by omega)
  have gM : ∀ a y, ¬ (a = 785 ∧ y = f) → a ≠ 926 → ¬ (a = 854 ∧ (y = 0 ∨ y = 6 ∨ y = 7)) → a ≠ 858 → a ≠ 859 → ¬ (863 ≤ a ∧ a ≤ 867) → ¬ (a = kFr d f ∧ y = 0) → ¬ (a = kFr d f + 15 ∧ eF d f ≤ y ∧ y < eF d f + cpk (d 12 f)) → ¬ (964 ≤ a ∧ (a - 964) % 53 = 0 ∧ y = 0) → M2 a y = M a y := fun a y w1 w2 w3 w4 w5 w6 w7 w8 w9 => by rw [r6 a y w1 (by omega) w3 w4 w5 w6]; exact tM a y w7 w8 w9 w2
  have gHd : HdF M2 S d tu f := by
    obtain ⟨u1, u2⟩ := m4
    refine ⟨fun s q1 q2 q q3 => ?_, fun y hy hn => ?_⟩
    · obtain ⟨od, o1, o2⟩ := u1 s q1 q2 q q3
      exact ⟨od, by rw [r6 _ _ (by omega) (by omega) (by omega) (by omega) (by omega) (by omega)]; exact o1, o2⟩
    · rw [r6 _ _ (by omega) (by omega) (by omega) (by omega) (by omega) (by omega)]; exact u2 y hy hn
  have hC2 : RCd A2 M2 Sb := RCd_fr (A := A1) (M := M2) r5 (fun a y w1 w2 => s4 a y (by omega) (by omega)) (fun _ _ _ => rfl)
  have hob' : M2 732 91 = sI ob := by rw [gM _ _ (by omega) (by omega) (by omega) (by omega) (by omega) (by omega) (by omega) (by omega) (by omega)]; exact hob
  obtain ⟨r, A3, M3, z1, z2, z3, z4, z5⟩ := st_send (fu := fu) (n := d 10 f) (ident := 64 + 8 * posf (d 11) F f) (row := 95) (n3 := 8) (fr := 0) (ob := ob) (q := q) (Lc := Lc) (Lm := Lm) (by omega) hBR2 hN (by omega) hq (by omega) (by omega) (by omega) (by omega) hob' hob2
  have eA : DX1_sendFrame fu (sI f) A Lc = fX1_sendFrame_b38 fu (sI f) A2 Lc := by
    unfold DX1_sendFrame
    rw [c1, mb2_s, mck_s (by omega) (by omega), sI_nn (by omega), tA 76 f (by omega) (by omega), a3]
    exact s1
  have e74 : A2 74 f = sI (d 10 f) := by rw [gA _ _ (by omega) (by omega) (by omega)]; exact a1
  have e78 : A2 78 f = sI (posf (d 11) F f) := by rw [gA _ _ (by omega) (by omega) (by omega)]; exact b1
  have e779 : M2 779 f = sI (d 10 f) := by rw [gM _ _ (by omega) (by omega) (by omega) (by omega) (by omega) (by omega) (by omega) (by omega) (by omega)]; exact a4
  have e784 : M2 784 f = sI (posf (d 11) F f) := by rw [gM _ _ (by omega) (by omega) (by omega) (by omega) (by omega) (by omega) (by omega) (by omega) (by omega)]; exact b3
  have z2' : DX19_put fu (sI (d 10 f)) (sI (64 + 8 * posf (d 11) F f)) 0 M2 Lm = some (bI r, M3, Lm) := z2
  have eM : DX19_send fu (sI f) M Lm = some (M3, Lm) := by
    rw [m1, r1]
    unfold fX19_send_b217
    rw [mck_s (by omega) (by omega), mck_s (by omega) (by omega), sI_nn (by omega), e779, e784, sI_lml, sI_lad, z2', mb3_s]
  have e0 : (0 : Int32).toNatClampNeg = 0 := rfl
  rw [eA, eM]
  unfold fX1_sendFrame_b38 fX1_sendFrame_b84 DX6_identifierOf
  rw [mck_s (by omega) (by omega), mck_s (by omega) (by omega), mb3_s, sI_nn (by omega), e74, e78, sI_lml, sI_lad, z1, mb3_s, e0]
  cases hr : r with
  | false =>
    obtain ⟨y1, y2⟩ := z4 hr
    rw [bI_f, if_pos (show (0 : Int32) = 0 from rfl), mlet_e, y1, y2]
    have t3 : ∀ a y, ¬ (a = 821 ∧ y = 0) → ¬ (a = 939 ∧ y = 0) → mset (mset M2 821 0 3) 939 0 (M2 939 0 + 1) a y = M2 a y := fun a y w1 w2 => by rw [mset_n w2, mset_n w1]
    have t4 : ∀ a y, ¬ (a = 292 ∧ y = 0) → mset A2 292 0 (A2 292 0 + 1) a y = A2 a y := fun a y w1 => mset_n w1
    refine ⟨_, _, rfl, rfl, by rw [t4 _ _ (by omega), s4 _ _ (by omega) (by omega)]; exact A77, by rw [t3 _ _ (by omega) (by omega)]; exact r2, RCd_fr hC2 (fun a y w1 w2 => t4 a y (by omega)) (fun a y w => t3 a y (by omega) (by omega)), ⟨Fb, ow, idb, ocb, dn, asl, BusR_fr hBR2 (fun a y w1 w2 => t4 a y (by omega)) (fun a y w1 w2 w3 => t3 a y w3 (by omega))⟩, ?_, ?_, fun a y w1 w2 w3 w4 w5 => by rw [t4 a y w5]; exact gA a y w1 w2 w3, fun a y w1 w2 w3 w4 w5 w6 w7 w8 w9 w10 w11 => by rw [t3 a y (by omega) w8]; exact gM a y w1 w2 w3 w4 w5 w6 w9 w10 w11⟩
    · rw [mset_s, mset_s, gA _ _ (by omega) (by omega) (by omega), gM _ _ (by omega) (by omega) (by omega) (by omega) (by omega) (by omega) (by omega) (by omega) (by omega), h292]
    · obtain ⟨u1, u2⟩ := gHd
      refine ⟨fun s q1 q2 q q3 => ?_, fun y hy hn => ?_⟩
      · obtain ⟨od, o1, o2⟩ := u1 s q1 q2 q q3
        exact ⟨od, by rw [t3 _ _ (by omega) (by omega)]; exact o1, o2⟩
      · rw [t3 _ _ (by omega) (by omega)]; exact u2 y hy hn
  | true =>
    obtain ⟨y1, y2, y3, y4⟩ := z5 hr
    rw [bI_t, if_neg (show ¬ (1 : Int32) = 0 by decide)]
    have t3 : ∀ a y, ¬ (821 ≤ a ∧ a ≤ 828) → M3 a y = M2 a y := fun a y w => y3 a y w (by omega)
    have t4 : ∀ a y, ¬ (20 ≤ a ∧ a ≤ 60) → A3 a y = A2 a y := fun a y w1 => y2 a y (by omega) (by omega) (by omega)
    refine ⟨_, _, rfl, rfl, by rw [t4 _ _ (by omega), s4 _ _ (by omega) (by omega)]; exact A77, by rw [t3 _ _ (by omega)]; exact r2, RCd_fr hC2 (fun a y w1 w2 => t4 a y (by omega)) (fun a y w => t3 a y (by omega)), ⟨_, _, _, _, _, _, y1⟩, ?_, ?_, fun a y w1 w2 w3 w4 w5 => by rw [t4 a y w4]; exact gA a y w1 w2 w3, fun a y w1 w2 w3 w4 w5 w6 w7 w8 w9 w10 w11 => by rw [t3 a y (by omega)]; exact gM a y w1 w2 w3 w4 w5 w6 w9 w10 w11⟩
    · rw [t4 _ _ (by omega), t3 _ _ (by omega), gA _ _ (by omega) (by omega) (by omega), gM _ _ (by omega) (by omega) (by omega) (by omega) (by omega) (by omega) (by omega) (by omega) (by omega), h292]
    · obtain ⟨u1, u2⟩ := gHd
      refine ⟨fun s q1 q2 q q3 => ?_, fun y hy hn => ?_⟩
      · obtain ⟨od, o1, o2⟩ := u1 s q1 q2 q q3
        exact ⟨od, by rw [t3 _ _ (by omega)]; exact o1, o2⟩
      · rw [t3 _ _ (by omega)]; exact u2 y hy hn
/-! all frames that are due -/
def nxf (ev t : Nat) : Nat := ev * ((t - 1) / ev + 1)
theorem nxf_due {ev t : Nat} (h : 0 < ev) : (nxf ev t = t ∧ 0 < t ∧ t % ev = 0 ∧ nxf ev t + ev = nxf ev (t + 1)) ∨ (nxf ev t ≠ t ∧ ¬ (0 < t ∧ t % ev = 0) ∧ nxf ev (t + 1) = nxf ev t) := by
  unfold nxf
  by_cases t0 : t = 0
  · right
    subst t0
    rw [Nat.zero_sub, Nat.zero_div]
    exact ⟨by omega, by omega, rfl⟩
  · have e1 := Nat.div_add_mod (t - 1) ev
    have e2 := Nat.mod_lt (t - 1) h
    generalize hq : (t - 1) / ev = q at e1
    generalize (t - 1) % ev = r at e1 e2
    rw [show t + 1 - 1 = t from by omega]
    have em : ev * (q + 1) = ev * q + ev := by rw [Nat.mul_add, Nat.mul_one]
    by_cases c : r + 1 = ev
    · left
      have et : t = ev * (q + 1) := by omega
      have ed : t / ev = q + 1 := by rw [et, Nat.mul_div_cancel_left _ h]
      refine ⟨et.symm, by omega, by rw [et, Nat.mul_mod_right], ?_⟩
      rw [ed, Nat.mul_add ev (q + 1) 1, Nat.mul_one]
    · right
      have et : t = ev * q + (r + 1) := by omega
      have ed : t / ev = q := by rw [et, Nat.mul_add_div h, Nat.div_eq_of_lt (by omega), Nat.add_zero]
      have em2 : t % ev = r + 1 := by rw [et, Nat.mul_add_mod, Nat.mod_eq_of_lt (by omega)]
      exact ⟨by omega, by omega, by rw [ed]⟩
theorem nxf_b {ev t : Nat} (h : 0 < ev) : nxf ev t ≤ t + ev ∧ t ≤ nxf ev t := by
  unfold nxf
  have e1 := Nat.div_add_mod (t - 1) ev
  have e2 := Nat.mod_lt (t - 1) h
  rw [Nat.mul_add, Nat.mul_one]
  omega
/-- what both keep of frames while the car runs, those below i one microsecond ahead -/
def DyS (A M : mwM) (F : Nat) (d : Nat → Nat → Nat) (t i : Nat) : Prop := ∀ f, f < F → (∃ n, A 77 f = sI n ∧ M 785 f = sI n ∧ n ≤ (if f < i then t + 1 else t)) ∧ A 79 f = sI (nxf (d 11 f) (if f < i then t + 1 else t))
def SoR (A : mwM) (F : Nat) (d : Nat → Nat → Nat) (t : Nat) : Prop := ∃ m, A 61 14 = sI m ∧ SoN (fun f => nxf (d 11 f) t) F m
theorem HdF_o {M M' : mwM} {A : mwM} {S F f g : Nat} {d : Nat → Nat → Nat} {tu : Nat → Bool} (hS : FrS A M S F d tu) (hf : f < F) (hg : g < F) (ne : g ≠ f) (h : HdF M S d tu g) (hM : ∀ a y, ¬ (a = kFr d f ∧ y = 0) → ¬ (a = kFr d f + 15 ∧ eF d f ≤ y ∧ y < eF d f + cpk (d 12 f)) → 941 ≤ a → a < 1577 → ¬ (964 ≤ a ∧ (a - 964) % 53 = 0 ∧ y = 0) → M' a y = M a y) : HdF M' S d tu g := by
  obtain ⟨h1, h2, h3, h4, h5, h6, h7, h8, h9, h10⟩ := hS
  obtain ⟨⟨_, _, _, _, _, _, _, _, f9, f10, f11, _⟩, _⟩ := h7 f hf
  obtain ⟨⟨_, _, _, _, _, _, _, _, g9, g10, g11, _⟩, _⟩ := h7 g hg
  have pf := pkn_12 (y := d 12 f) f11
  have pg := pkn_12 (y := d 12 g) g11
  have kf : kFr d f = 941 + 53 * pkn (d 10 f) (d 12 f) := rfl
  have kg : kFr d g = 941 + 53 * pkn (d 10 g) (d 12 g) := rfl
  have rg : ∀ y, y < cpk (d 12 g) → M' (kFr d g + 15) (eF d g + y) = M (kFr d g + 15) (eF d g + y) := fun y hy => by
    by_cases e : pkn (d 10 f) (d 12 f) = pkn (d 10 g) (d 12 g)
    · have ni : d 13 g ≠ d 13 f := fun w => ne (h10 g f hg hf e.symm w)
      have ec : cpk (d 12 f) = cpk (d 12 g) := by
        unfold pkn at e
        unfold cpk
        split at e <;> split at e <;> (try split) <;> (try split) <;> omega
      have ef : eF d f = (d 13 f - 1) * cpk (d 12 g) := by rw [← ec]
      have eg : eF d g = (d 13 g - 1) * cpk (d 12 g) := rfl
      refine hM _ _ (by omega) ?_ (by omega) (by omega) (by omega)
      rw [ec]
      rintro ⟨_, w2, w3⟩
      rw [ef] at w2 w3
      rw [eg] at w2 w3
      rcases Nat.lt_or_gt_of_ne ni with q | q
      · have := Nat.mul_le_mul_right (cpk (d 12 g)) (show d 13 g - 1 + 1 ≤ d 13 f - 1 by omega)
        rw [Nat.add_mul, Nat.one_mul] at this
        omega
      · have := Nat.mul_le_mul_right (cpk (d 12 g)) (show d 13 f - 1 + 1 ≤ d 13 g - 1 by omega)
        rw [Nat.add_mul, Nat.one_mul] at this
        omega
    · exact hM _ _ (by omega) (by omega) (by omega) (by omega) (by omega)
  obtain ⟨u1, u2⟩ := h
  refine ⟨fun s q1 q2 q q3 => ?_, fun y hy hn => by rw [rg y hy]; exact u2 y hy hn⟩
  obtain ⟨od, o1, o2⟩ := u1 s q1 q2 q q3
  obtain ⟨k1, k2, k3, k4, ⟨b1, b2, b3, b4, b5, b6, b7, b8, b9, _⟩, _⟩ := h8 s q1
  rw [← k4, q2] at b9
  have hpq := pqf_lt (t := tu s) q3
  have eo : ocs (d 0) s = (d 0 s + 7) / 8 := rfl
  refine ⟨od, ?_, o2⟩
  have eq : eF d g + d 7 s + pqf (tu s) (ocs (d 0) s) q = eF d g + (d 7 s + pqf (tu s) (ocs (d 0) s) q) := by omega
  rw [eq] at o1 ⊢
  rw [rg _ (by omega)]
  exact o1
/-- what the frames' turn leaves alone -/
abbrev sfA (A A' : mwM) : Prop := ∀ a y, a ≠ 77 → a ≠ 79 → ¬ (95 ≤ a ∧ a ≤ 96) → ¬ (137 ≤ a ∧ a ≤ 138) → ¬ (20 ≤ a ∧ a ≤ 60) → ¬ (a = 292 ∧ y = 0) → ¬ (a = 61 ∧ y = 14) → A' a y = A a y
abbrev sfM (M M' : mwM) : Prop := ∀ a y, a ≠ 785 → a ≠ 926 → ¬ (a = 854 ∧ (y = 0 ∨ y = 6 ∨ y = 7)) → a ≠ 858 → a ≠ 859 → ¬ (863 ≤ a ∧ a ≤ 867) → ¬ (821 ≤ a ∧ a ≤ 853) → ¬ (a = 939 ∧ y = 0) → ¬ (941 ≤ a ∧ (((a - 941) % 53 = 0 ∧ y = 0) ∨ (a - 941) % 53 = 15 ∨ ((a - 941) % 53 = 23 ∧ y = 0))) → M' a y = M a y
theorem st_sendFrames {fu S F N t ob : Nat} {d : Nat → Nat → Nat} {tu si : Nat → Bool} {Sb ec tc fl : Nat → Nat} {A M : mwM} {Lc Lm : mwL} (hfu : 300 ≤ fu) (ht : t < 20000) (hS : FrS A M S F d tu) (hH : ∀ f, f < F → HdF M S d tu f) (hV : ∀ s, s < S → Lc (293 + 36 * d 4 s + 34) (d 5 s) = Lm (964 + 53 * d 4 s + 21) (d 5 s)) (hD : DyS A M F d t 0) (hSo : SoR A F d t) (hC : RCd A M Sb) (hK : ∀ f, f < F → d 12 f ≠ 0 → KnC A Sb (d 12 f)) (hB : BusE A M N t ec tc fl) (hN : ∀ f, f < F → d 10 f < N) (h292 : A 292 0 = M 939 0) (hob : M 732 91 = sI ob) (hob2 : ob < 6001) (hsi : ∀ c, c < 6 → A 284 c = bI (si c) ∧ M 923 c = bI (si c)) (h83 : M 732 83 = sI t) : ∃ A' M', DX1_sendFrames fu (sI t) A Lc = some (A', Lc) ∧ fX19_microsecond_h2 fu fu (0, M, Lm) = fX19_microsecond_b56 fu M' Lm ∧ FrS A' M' S F d tu ∧ (∀ f, f < F → HdF M' S d tu f) ∧ DyS A' M' F d (t + 1) 0 ∧ SoR A' F d (t + 1) ∧ RCd A' M' Sb ∧ BusE A' M' N t ec tc fl ∧ A' 292 0 = M' 939 0 ∧ sfA A A' ∧ sfM M M' := by
  have hF40 := hS.2.2.2.2.2.1
  have hev : ∀ f, f < F → 500 ≤ d 11 f ∧ d 11 f ≤ 20000 ∧ d 10 f < 6 := fun f hf => by
    obtain ⟨⟨_, _, _, _, _, _, _, _, f9, f10, f11, f12, f13, f14, _⟩, _⟩ := hS.2.2.2.2.2.2.1 f hf
    exact ⟨f13, f14, f11⟩
  -- the reference where nothing is due
  have none : (∀ f, f < F → ¬ (0 < t ∧ t % d 11 f = 0)) → ∀ (r i q : Nat), i + r = F → r < q → fX19_microsecond_h2 fu q (sI i, M, Lm) = fX19_microsecond_b56 fu M Lm := by
    intro hno r
    induction r with
    | zero =>
      intro i q hi hq
      obtain ⟨q', rfl⟩ : ∃ y, q = y + 1 := ⟨q - 1, by omega⟩
      show fX19_microsecond_i2 fu (fX19_microsecond_h2 fu q') (sI i) M Lm = _
      unfold fX19_microsecond_i2
      rw [hS.2.2.2.2.1, if_pos (by rw [sI_le (by omega) (by omega)]; omega)]
    | succ r ih =>
      intro i q hi hq
      obtain ⟨q', rfl⟩ : ∃ y, q = y + 1 := ⟨q - 1, by omega⟩
      show fX19_microsecond_i2 fu (fX19_microsecond_h2 fu q') (sI i) M Lm = _
      unfold fX19_microsecond_i2 fX19_microsecond_b50
      rw [hS.2.2.2.2.1, if_neg (by rw [sI_le (by omega) (by omega)]; omega), h83]
      by_cases t0 : t = 0
      · rw [if_pos (by rw [t0]; decide)]
      · obtain ⟨⟨_, _, _, _, _, _, a7, _⟩, _⟩ := hS.2.2.2.2.2.2.1 i (by omega)
        have e := hev i (by omega)
        have em : sI t - sI t / sI (d 11 i) * sI (d 11 i) = sI (t % d 11 i) := sI_mod (by omega) (by omega)
        have hlt := Nat.mod_lt t (show 0 < d 11 i by omega)
        rw [if_neg (by rw [sI_lel (by omega) (by decide)]; omega), mck_s (by omega) (by omega), sI_nn (by omega), a7]
        unfold mnz
        rw [if_neg (by rw [show (0 : Int32) = sI 0 from rfl, sI_eq (by omega) (by omega)]; omega), em, if_neg (by rw [show (0 : Int32) = sI 0 from rfl, sI_eq (by omega) (by omega)]; have := hno i (by omega); omega), mlet_e, sI_1]
        exact ih (i + 1) q' (by omega) (by omega)
  obtain ⟨m, m1, m2, m3, m4⟩ := hSo
  unfold DX1_sendFrames
  by_cases due : m ≤ t
  · rw [m1, if_pos (by rw [sI_le (by omega) (by omega)]; exact due)]
    have t0 : 0 < t := by
      rcases m4 with m4 | ⟨f, f1, f2⟩
      · omega
      · have := hev f f1
        have e : nxf (d 11 f) t = m := f2
        unfold nxf at e
        have : d 11 f * 1 ≤ d 11 f * ((t - 1) / d 11 f + 1) := Nat.mul_le_mul_left _ (Nat.le_add_left 1 _)
        omega
    have key : ∀ (r i q q' : Nat) (B P : mwM), i + r = F → r < q → r < q' → FrS B P S F d tu → (∀ f, f < F → HdF P S d tu f) → DyS B P F d t i → RCd B P Sb → (∀ f, f < F → d 12 f ≠ 0 → KnC B Sb (d 12 f)) → BusE B P N t ec tc fl → B 292 0 = P 939 0 → sfA A B → sfM M P → ∃ A' M', fX1_sendFrames_h14 fu (sI t) q (sI i, B, Lc) = some (A', Lc) ∧ fX19_microsecond_h2 fu q' (sI i, P, Lm) = fX19_microsecond_b56 fu M' Lm ∧ FrS A' M' S F d tu ∧ (∀ f, f < F → HdF M' S d tu f) ∧ DyS A' M' F d (t + 1) 0 ∧ SoR A' F d (t + 1) ∧ RCd A' M' Sb ∧ BusE A' M' N t ec tc fl ∧ A' 292 0 = M' 939 0 ∧ sfA A A' ∧ sfM M M' := by
      intro r
      induction r with
      | zero =>
        intro i q q' B P hi hq hq' kS kH kD kC kK kB k0 fA fM
        obtain ⟨w, rfl⟩ : ∃ y, q = y + 1 := ⟨q - 1, by omega⟩
        obtain ⟨w', rfl⟩ : ∃ y, q' = y + 1 := ⟨q' - 1, by omega⟩
        have ei : i = F := by omega
        subst ei
        have kD' : ∀ f, f < i → (∃ n, B 77 f = sI n ∧ P 785 f = sI n ∧ n ≤ t + 1) ∧ B 79 f = sI (nxf (d 11 f) (t + 1)) := fun f hf => by
          have := kD f hf
          rw [if_pos hf] at this
          exact this
        obtain ⟨m', n1, n2⟩ := c_findSoonest (fu := fu) (A := B) (L := Lc) (nx := fun f => nxf (d 11 f) (t + 1)) (by omega) kS.2.2.2.1 hF40 (fun f hf => ⟨(kD' f hf).2, by
          have := hev f hf
          have := nxf_b (t := t + 1) (show 0 < d 11 f by omega)
          try dsimp only
          omega⟩)
        have tB : ∀ a y, ¬ (a = 61 ∧ y = 14) → mset B 61 14 (sI m') a y = B a y := fun a y u => mset_n u
        refine ⟨mset B 61 14 (sI m'), P, ?_, ?_, FrS_f kS (fun a y u => tB a y (by omega)) (fun _ _ _ => rfl), kH, fun f hf => ?_, ⟨m', by rw [mset_s], n2⟩, RCd_fr kC (fun a y u1 u2 => tB a y (by omega)) (fun _ _ _ => rfl), BusE_fr kB (fun a y u1 u2 => tB a y (by omega)) (fun _ _ _ _ _ => rfl), by rw [tB _ _ (by omega)]; exact k0, fun a y u1 u2 u3 u4 u5 u6 u7 => by rw [tB a y u7]; exact fA a y u1 u2 u3 u4 u5 u6 u7, fM⟩
        · show fX1_sendFrames_i14 fu (sI t) (fX1_sendFrames_h14 fu (sI t) w) (sI i) B Lc = _
          unfold fX1_sendFrames_i14
          rw [kS.2.2.2.1, if_pos (by rw [sI_le (by omega) (by omega)]; omega), n1, mb2_s]
        · show fX19_microsecond_i2 fu (fX19_microsecond_h2 fu w') (sI i) P Lm = _
          unfold fX19_microsecond_i2
          rw [kS.2.2.2.2.1, if_pos (by rw [sI_le (by omega) (by omega)]; omega)]
        · rw [if_neg (by omega), tB _ _ (by omega), tB _ _ (by omega)]
          exact kD' f hf
      | succ r ih =>
        intro i q q' B P hi hq hq' kS kH kD kC kK kB k0 fA fM
        obtain ⟨w, rfl⟩ : ∃ y, q = y + 1 := ⟨q - 1, by omega⟩
        obtain ⟨w', rfl⟩ : ∃ y, q' = y + 1 := ⟨q' - 1, by omega⟩
        have hiF : i < F := by omega
        have unA : fX1_sendFrames_h14 fu (sI t) (w + 1) (sI i, B, Lc) = fX1_sendFrames_i14 fu (sI t) (fX1_sendFrames_h14 fu (sI t) w) (sI i) B Lc := rfl
        have unM : fX19_microsecond_h2 fu (w' + 1) (sI i, P, Lm) = fX19_microsecond_i2 fu (fX19_microsecond_h2 fu w') (sI i) P Lm := rfl
        rw [unA, unM]
        obtain ⟨⟨a1, a2, a3, a4, a5, a6, a7, a8, a9, a10, a11, a12, a13, a14, a15, a16, a17⟩, b1, b2, b3⟩ := kS.2.2.2.2.2.2.1 i hiF
        obtain ⟨⟨n, n1, n2, n3⟩, n4⟩ := kD i hiF
        rw [if_neg (by omega)] at n3 n4
        have e := hev i hiF
        have nb := nxf_b (t := t) (show 0 < d 11 i by omega)
        have em : sI t - sI t / sI (d 11 i) * sI (d 11 i) = sI (t % d 11 i) := sI_mod (by omega) (by omega)
        have hlt := Nat.mod_lt t (show 0 < d 11 i by omega)
        have p83 : P 732 83 = sI t := by rw [fM _ _ (by omega) (by omega) (by omega) (by omega) (by omega) (by omega) (by omega) (by omega) (by omega)]; exact h83
        unfold fX1_sendFrames_i14 fX1_sendFrames_b61 fX19_microsecond_i2 fX19_microsecond_b50 DX6_takeTurn
        rw [kS.2.2.2.1, kS.2.2.2.2.1, if_neg (show ¬ sI F ≤ sI i by rw [sI_le (by omega) (by omega)]; omega), if_neg (show ¬ sI F ≤ sI i by rw [sI_le (by omega) (by omega)]; omega), p83, if_neg (show ¬ sI t ≤ 0 by rw [sI_lel (by omega) (by decide)]; omega), mck_s (by omega) (by omega), sI_nn (show i < 2000000000 by omega), n4, mck_s (by omega) (by omega), a7]
        unfold mnz
        rw [if_neg (show ¬ sI (d 11 i) = 0 by rw [show (0 : Int32) = sI 0 from rfl, sI_eq (by omega) (by omega)]; omega), em]
        rcases nxf_due (t := t) (show 0 < d 11 i by omega) with ⟨u1, u2, u3, u4⟩ | ⟨u1, u2, u3⟩
        · -- it is due
          rw [if_pos (by rw [u1]), if_pos (by rw [u3]; rfl), mck_s (by omega) (by omega), mck_s (by omega) (by omega), mck_s (by omega) (by omega), mlet_e, mb3_s, if_neg (show ¬ (1 : Int32) = 0 by decide), a2, sI_add, mck_s (by omega) (by omega), mset_n (show ¬ (74 = 79 ∧ i = i) by omega), a1, mck_s (by omega) (by omega), sI_nn (show d 10 i < 2000000000 by omega), mck_s (by omega) (by omega), a4, mck_s (by omega) (by omega), sI_nn (show d 10 i < 2000000000 by omega)]
          generalize hB1 : mset B 79 i (sI (nxf (d 11 i) t + d 11 i)) = B1
          have t1 : ∀ a y, ¬ (a = 79 ∧ y = i) → B1 a y = B a y := fun a y u => by rw [← hB1, mset_n u]
          have b79 : B1 79 i = sI (nxf (d 11 i) (t + 1)) := by rw [← hB1, mset_s, u4]
          obtain ⟨s1, s2⟩ := hsi (d 10 i) a11
          have p923 : P 923 (d 10 i) = bI (si (d 10 i)) := by rw [fM _ _ (by omega) (by omega) (by omega) (by omega) (by omega) (by omega) (by omega) (by omega) (by omega)]; exact s2
          have b284 : B1 284 (d 10 i) = bI (si (d 10 i)) := by rw [t1 _ _ (by omega), fA _ _ (by omega) (by omega) (by omega) (by omega) (by omega) (by omega) (by omega)]; exact s1
          have kS1 : FrS B1 P S F d tu := FrS_f kS (fun a y u => t1 a y (by omega)) (fun _ _ _ => rfl)
          have kC1 : RCd B1 P Sb := RCd_fr kC (fun a y u1 u2 => t1 a y (by omega)) (fun _ _ _ => rfl)
          have kK1 : ∀ f, f < F → d 12 f ≠ 0 → KnC B1 Sb (d 12 f) := fun f hf hz => by
            obtain ⟨⟨_, _, _, _, _, _, _, _, _, _, _, f12, _⟩, _⟩ := kS.2.2.2.2.2.2.1 f hf
            obtain ⟨z1, z2, z3⟩ := kK f hf hz
            exact ⟨by rw [t1 _ _ (by omega)]; exact z1, fun i u => by rw [t1 _ _ (by omega)]; exact z2 i u, fun i u => by rw [t1 _ _ (by omega)]; exact z3 i u⟩
          have kB1 : BusE B1 P N t ec tc fl := BusE_fr kB (fun a y u1 u2 => t1 a y (by omega)) (fun _ _ _ _ _ => rfl)
          rw [b284, p923]
          cases hsl : si (d 10 i) with
          | true =>
            rw [bI_t, if_neg (show ¬ (1 : Int32) = 0 by decide), if_neg (show ¬ (1 : Int32) = 0 by decide), mlet_e, mlet_e, sI_1]
            refine ih (i + 1) w w' B1 P (by omega) (by omega) (by omega) kS1 kH (fun f hf => ?_) kC1 kK1 kB1 (by rw [t1 _ _ (by omega)]; exact k0) (fun a y v1 v2 v3 v4 v5 v6 v7 => by rw [t1 a y (by omega)]; exact fA a y v1 v2 v3 v4 v5 v6 v7) fM
            by_cases ef : f = i
            · subst ef
              rw [if_pos (by omega), t1 77 f (by omega)]
              exact ⟨⟨n, n1, n2, by omega⟩, b79⟩
            · obtain ⟨⟨n', x1, x2, x3⟩, x4⟩ := kD f hf
              by_cases lt : f < i
              · rw [if_pos lt] at x3 x4
                rw [if_pos (by omega), t1 77 f (by omega), t1 79 f (by omega)]
                exact ⟨⟨n', x1, x2, x3⟩, x4⟩
              · rw [if_neg lt] at x3 x4
                rw [if_neg (by omega), t1 77 f (by omega), t1 79 f (by omega)]
                exact ⟨⟨n', x1, x2, x3⟩, x4⟩
          | false =>
            rw [bI_f, if_pos (show (0 : Int32) = 0 from rfl), if_pos (show (0 : Int32) = 0 from rfl)]
            obtain ⟨B2, P2, z1, z2, z3, z4, z5, z6, z7, z8, z9, z10⟩ := st_sendFrame (fu := fu) (Lc := Lc) (Lm := Lm) (ob := ob) hfu kS1 hiF (kH i hiF) hV (by rw [t1 _ _ (by omega)]; exact n1) n2 (by omega) kC1 (kK1 i hiF) kB1 (hN i hiF) (by rw [t1 _ _ (by omega)]; exact k0) (by rw [fM _ _ (by omega) (by omega) (by omega) (by omega) (by omega) (by omega) (by omega) (by omega) (by omega)]; exact hob) hob2
            rw [z1, z2, mb2_s, mb2_s, mlet_e, mlet_e, sI_1]
            have hkF : kFr d i = 941 + 53 * pkn (d 10 i) (d 12 i) := rfl
            have hpk := pkn_12 (y := d 12 i) a11
            have tA : ∀ a y, a ≠ 77 → a ≠ 79 → ¬ (95 ≤ a ∧ a ≤ 96) → ¬ (137 ≤ a ∧ a ≤ 138) → ¬ (20 ≤ a ∧ a ≤ 60) → ¬ (a = 292 ∧ y = 0) → B2 a y = B a y := fun a y v1 v2 v3 v4 v5 v6 => by rw [z9 a y (by omega) v3 v4 v5 v6]; exact t1 a y (by omega)
            have tM : ∀ a y, a ≠ 785 → a ≠ 926 → ¬ (a = 854 ∧ (y = 0 ∨ y = 6 ∨ y = 7)) → a ≠ 858 → a ≠ 859 → ¬ (863 ≤ a ∧ a ≤ 867) → ¬ (821 ≤ a ∧ a ≤ 853) → ¬ (a = 939 ∧ y = 0) → ¬ (941 ≤ a ∧ (((a - 941) % 53 = 0 ∧ y = 0) ∨ (a - 941) % 53 = 15 ∨ ((a - 941) % 53 = 23 ∧ y = 0))) → P2 a y = P a y := fun a y v1 v2 v3 v4 v5 v6 v7 v8 v9 => z10 a y (by omega) v2 v3 v4 v5 v6 v7 v8 (by omega) (by omega) (by omega)
            refine ih (i + 1) w w' B2 P2 (by omega) (by omega) (by omega) (FrS_f kS (fun a y u => tA a y (by omega) (by omega) (by omega) (by omega) (by omega) (by omega)) (fun a y u => tM a y (by omega) (by omega) (by omega) (by omega) (by omega) (by omega) (by omega) (by omega) (by omega))) (fun f hf => ?_) (fun f hf => ?_) z5 (fun f hf hz => ?_) z6 z7 (fun a y v1 v2 v3 v4 v5 v6 v7 => by rw [tA a y v1 v2 v3 v4 v5 v6]; exact fA a y v1 v2 v3 v4 v5 v6 v7) (fun a y v1 v2 v3 v4 v5 v6 v7 v8 v9 => by rw [tM a y v1 v2 v3 v4 v5 v6 v7 v8 v9]; exact fM a y v1 v2 v3 v4 v5 v6 v7 v8 v9)
            · by_cases ef : f = i
              · rw [ef]; exact z8
              · exact HdF_o kS hiF hf ef (kH f hf) (fun a y v1 v2 v3 v4 v5 => z10 a y (by omega) (by omega) (by omega) (by omega) (by omega) (by omega) (by omega) (by omega) v1 v2 v5)
            · by_cases ef : f = i
              · subst ef
                rw [if_pos (by omega)]
                exact ⟨⟨n + 1, z3, z4, by omega⟩, by rw [z9 _ _ (by omega) (by omega) (by omega) (by omega) (by omega)]; exact b79⟩
              · obtain ⟨⟨n', x1, x2, x3⟩, x4⟩ := kD f hf
                have y1 : B2 77 f = B 77 f := by rw [z9 _ _ (by omega) (by omega) (by omega) (by omega) (by omega)]; exact t1 _ _ (by omega)
                have y2 : B2 79 f = B 79 f := by rw [z9 _ _ (by omega) (by omega) (by omega) (by omega) (by omega)]; exact t1 _ _ (by omega)
                have y3 : P2 785 f = P 785 f := z10 _ _ (by omega) (by omega) (by omega) (by omega) (by omega) (by omega) (by omega) (by omega) (by omega) (by omega) (by omega)
                rw [y1, y2, y3]
                by_cases lt : f < i
                · rw [if_pos lt] at x3 x4
                  rw [if_pos (by omega)]
                  exact ⟨⟨n', x1, x2, x3⟩, x4⟩
                · rw [if_neg lt] at x3 x4
                  rw [if_neg (by omega)]
                  exact ⟨⟨n', x1, x2, x3⟩, x4⟩
            · obtain ⟨⟨_, _, _, _, _, _, _, _, _, _, _, f12, _⟩, _⟩ := kS.2.2.2.2.2.2.1 f hf
              obtain ⟨x1, x2, x3⟩ := kK f hf hz
              exact ⟨by rw [tA _ _ (by omega) (by omega) (by omega) (by omega) (by omega) (by omega)]; exact x1, fun i u => by rw [tA _ _ (by omega) (by omega) (by omega) (by omega) (by omega) (by omega)]; exact x2 i u, fun i u => by rw [tA _ _ (by omega) (by omega) (by omega) (by omega) (by omega) (by omega)]; exact x3 i u⟩
        · -- it isn't
          rw [if_neg (by rw [sI_eq (by omega) (by omega)]; exact u1), mb3_s, if_pos (show (0 : Int32) = 0 from rfl), if_neg (by rw [show (0 : Int32) = sI 0 from rfl, sI_eq (by omega) (by omega)]; omega), mlet_e, mlet_e, sI_1, mck_s (show i < 40 by omega) (by omega)]
          refine ih (i + 1) w w' B P (by omega) (by omega) (by omega) kS kH (fun f hf => ?_) kC kK kB k0 fA fM
          obtain ⟨⟨n', x1, x2, x3⟩, x4⟩ := kD f hf
          by_cases ef : f = i
          · subst ef
            rw [if_neg (by omega)] at x3 x4
            rw [if_pos (by omega), u3]
            exact ⟨⟨n', x1, x2, by omega⟩, x4⟩
          · by_cases lt : f < i
            · rw [if_pos lt] at x3 x4
              rw [if_pos (by omega)]
              exact ⟨⟨n', x1, x2, x3⟩, x4⟩
            · rw [if_neg lt] at x3 x4
              rw [if_neg (by omega)]
              exact ⟨⟨n', x1, x2, x3⟩, x4⟩
    exact key F 0 fu fu A M (by omega) (by omega) (by omega) hS hH hD hC hK hB h292 (fun _ _ _ _ _ _ _ _ _ => rfl) (fun _ _ _ _ _ _ _ _ _ _ _ => rfl)
  · rw [m1, if_neg (by rw [sI_le (by omega) (by omega)]; exact due)]
    have nd : ∀ f, f < F → ¬ (0 < t ∧ t % d 11 f = 0) ∧ nxf (d 11 f) (t + 1) = nxf (d 11 f) t := fun f hf => by
      have e := hev f hf
      have := m2 f hf
      rcases nxf_due (t := t) (show 0 < d 11 f by omega) with ⟨u1, u2, u3, u4⟩ | ⟨u1, u2, u3⟩
      · dsimp only at this
        omega
      · exact ⟨u2, u3⟩
    refine ⟨A, M, rfl, none (fun f hf => (nd f hf).1) F 0 fu (by omega) (by omega), hS, hH, fun f hf => ?_, ⟨m, m1, ?_, m3, ?_⟩, hC, hB, h292, fun _ _ _ _ _ _ _ _ _ => rfl, fun _ _ _ _ _ _ _ _ _ _ _ => rfl⟩
    · obtain ⟨⟨n', x1, x2, x3⟩, x4⟩ := hD f hf
      rw [if_neg (by omega)] at x3 x4 ⊢
      rw [(nd f hf).2]
      exact ⟨⟨n', x1, x2, by omega⟩, x4⟩
    · intro f hf
      dsimp only
      rw [(nd f hf).2]
      exact m2 f hf
    · rcases m4 with m4 | ⟨f, f1, f2⟩
      · exact Or.inl m4
      · exact Or.inr ⟨f, f1, by dsimp only; rw [(nd f f1).2]; exact f2⟩
/-! the value of a signal in a frame -/
def hiv (o : Nat → Nat) (n : Nat) : Nat → Nat
  | 0 => 0
  | r + 1 => hiv o n r * 256 + o (n - 1 - r)
theorem hiv_lt {o : Nat → Nat} {n : Nat} (ho : ∀ i, i < n → o i < 256) : ∀ r, r ≤ n → hiv o n r < 2 ^ (8 * r) := by
  intro r
  induction r with
  | zero => intro _; show 0 < _; exact Nat.pow_pos (by omega)
  | succ r ih =>
    intro hr
    have h1 := ih (by omega)
    have h2 := ho (n - 1 - r) (by omega)
    show hiv o n r * 256 + o (n - 1 - r) < 2 ^ (8 * (r + 1))
    have e : 2 ^ (8 * (r + 1)) = 2 ^ (8 * r) * 256 := by rw [show 8 * (r + 1) = 8 * r + 8 from by omega, Nat.pow_add]
    rw [e]
    have h3 : (hiv o n r + 1) * 256 ≤ 2 ^ (8 * r) * 256 := Nat.mul_le_mul_right _ h1
    omega
theorem hiv_oct {o : Nat → Nat} {n : Nat} (ho : ∀ i, i < n → o i < 256) : ∀ r, r ≤ n → ∀ i, i < r → hiv o n r / 2 ^ (8 * i) % 256 = o (n - r + i) := by
  intro r
  induction r with
  | zero => intro _ i hi; omega
  | succ r ih =>
    intro hr i hi
    have h2 := ho (n - 1 - r) (by omega)
    have e1 : hiv o n (r + 1) = hiv o n r * 256 + o (n - 1 - r) := rfl
    rw [e1]
    by_cases i0 : i = 0
    · subst i0
      rw [Nat.mul_zero, Nat.pow_zero, Nat.div_one, Nat.add_zero, show n - (r + 1) = n - 1 - r from by omega]
      omega
    · obtain ⟨j, rfl⟩ : ∃ j, i = j + 1 := ⟨i - 1, by omega⟩
      have e2 : (hiv o n r * 256 + o (n - 1 - r)) / 2 ^ (8 * (j + 1)) = hiv o n r / 2 ^ (8 * j) := by
        rw [show 8 * (j + 1) = 8 + 8 * j from by omega, Nat.pow_add, ← Nat.div_div_eq_div_mul]
        congr 1
        show (hiv o n r * 256 + o (n - 1 - r)) / 256 = _
        omega
      rw [e2, ih (by omega) j (by omega), show n - r + j = n - (r + 1) + (j + 1) from by omega]
theorem uL_mul {v : Int64} {q : Nat} (hq : q < 256) (h : uL v * 256 + q < 2 ^ 64) : uL (v * 256 + (sI q).toInt64) = uL v * 256 + q := by
  rw [sI_L (by omega)]
  show (v.toBitVec * (256 : Int64).toBitVec + (sL q).toBitVec).toNat = v.toBitVec.toNat * 256 + q
  have e1 : ((256 : Int64).toBitVec).toNat = 256 := by decide
  have e2 : ((sL q).toBitVec).toNat = q := uL_s (by omega)
  have h' : v.toBitVec.toNat * 256 + q < 2 ^ 64 := h
  rw [BitVec.toNat_add, BitVec.toNat_mul, e1, e2, Nat.mod_eq_of_lt (Nat.lt_of_le_of_lt (Nat.le_add_right _ _) h'), Nat.mod_eq_of_lt h']
theorem uL_or {v : Int64} {k : Nat} (hk : k < 64) (h : uL v < 2 ^ k) : uL (v ||| (1 <<< ((sI k).toInt64 &&& 63))) = uL v + 2 ^ k := by
  have e : ∀ b, b < 64 → ((1 : Int64) <<< ((sI b).toInt64 &&& 63)).toBitVec = BitVec.ofNat 64 (2 ^ b) := by decide +kernel
  show (v.toBitVec ||| ((1 : Int64) <<< ((sI k).toInt64 &&& 63)).toBitVec).toNat = v.toBitVec.toNat + 2 ^ k
  have hb : 2 ^ k < 2 ^ 64 := Nat.pow_lt_pow_right (by omega) hk
  rw [e k hk, BitVec.toNat_or, BitVec.toNat_ofNat, Nat.mod_eq_of_lt hb]
  have h3 := Nat.two_pow_add_eq_or_of_lt h 1
  rw [Nat.mul_one] at h3
  have h4 : 2 ^ k + v.toBitVec.toNat = 2 ^ k ||| v.toBitVec.toNat := h3
  rw [Nat.add_comm, h4, Nat.or_comm]
theorem c_valueIn {fu s row n2 b o : Nat} {t : Bool} {ov : Nat → Nat} {A : mwM} {L : mwL} (hfu : 20 ≤ fu) (hs : s < 40) (h63 : A 63 s = sI b) (b1 : 1 ≤ b) (b2 : b ≤ 64) (h67 : A 67 s = bI t) (h72 : A 72 s = sI o) (ho : o + (b + 7) / 8 ≤ 8) (hn2 : 8 ≤ n2) (hn3 : n2 < 1000) (hov : ∀ y, y < 8 → A row y = sI (ov y) ∧ ov y < 256) : ∃ w, DX6_valueIn fu (sI s) row n2 A L = some (w, A, L) ∧ uL w = hiv (fun q => ov (o + pqf t ((b + 7) / 8) q)) ((b + 7) / 8) ((b + 7) / 8) % 2 ^ b := by
  generalize hO : (fun q => ov (o + pqf t ((b + 7) / 8) q)) = O
  have hO2 : ∀ q, O q = ov (o + pqf t ((b + 7) / 8) q) := fun q => by rw [← hO]
  have hO8 : ∀ q, q < (b + 7) / 8 → O q < 256 := fun q hq => by
    have := pqf_lt (t := t) hq
    rw [hO2]; exact (hov _ (by omega)).2
  unfold DX6_valueIn
  rw [c_octetsOf hs h63 b2, mb3_s, mlet_e]
  have key : ∀ (r j q : Nat) (v : Int64), r + j = (b + 7) / 8 → j < q → uL v = hiv O ((b + 7) / 8) r → ∃ w, fX6_valueIn_h11 fu (sI s) row n2 q (v, sI j - 1, A, L) = some (w, A, L) ∧ uL w = hiv O ((b + 7) / 8) ((b + 7) / 8) % 2 ^ b := by
    intro r j
    induction j generalizing r with
    | zero =>
      intro q v hr hq hv
      obtain ⟨q', rfl⟩ : ∃ y, q = y + 1 := ⟨q - 1, by omega⟩
      have un : fX6_valueIn_h11 fu (sI s) row n2 (q' + 1) (v, sI 0 - 1, A, L) = fX6_valueIn_i11 fu (sI s) row n2 (fX6_valueIn_h11 fu (sI s) row n2 q') v (sI 0 - 1) A L := rfl
      rw [un]
      unfold fX6_valueIn_i11
      obtain ⟨w, w1, w2⟩ := c_cutTo (fu := fu) (v := v) (M := A) (L := L) b1 b2
      refine ⟨w, ?_, ?_⟩
      · rw [if_pos (by decide), mck_s hs (by omega), sI_nn (by omega), h63, w1, mb3_s]
      · rw [w2, hv, show r = (b + 7) / 8 from by omega]
    | succ j ih =>
      intro q v hr hq hv
      obtain ⟨q', rfl⟩ : ∃ y, q = y + 1 := ⟨q - 1, by omega⟩
      have un : fX6_valueIn_h11 fu (sI s) row n2 (q' + 1) (v, sI (j + 1) - 1, A, L) = fX6_valueIn_i11 fu (sI s) row n2 (fX6_valueIn_h11 fu (sI s) row n2 q') v (sI (j + 1) - 1) A L := rfl
      rw [un, sI_m1]
      have hj : j < (b + 7) / 8 := by omega
      have hpq := pqf_lt (t := t) hj
      obtain ⟨o1, o2⟩ := hov (o + pqf t ((b + 7) / 8) j) (by omega)
      unfold fX6_valueIn_i11
      rw [if_neg (by rw [sI_ltl (by omega) (by decide)]; omega), c_placeOf hs h67 h72 h63 b2 hj, mb3_s, mck_s (by omega) (by omega), sI_nn (by omega), o1, mlet_e, mlet_e, shl_or v _ o2]
      have em : sI j + (-1) = sI j - 1 := by rw [Int32.sub_eq_add_neg]
      rw [em]
      have hl := hiv_lt hO8 r (by omega)
      have hl2 := hiv_lt hO8 (r + 1) (by omega)
      have e1 : hiv O ((b + 7) / 8) (r + 1) = hiv O ((b + 7) / 8) r * 256 + O ((b + 7) / 8 - 1 - r) := rfl
      have e2 : O ((b + 7) / 8 - 1 - r) = ov (o + pqf t ((b + 7) / 8) j) := by rw [hO2, show (b + 7) / 8 - 1 - r = j from by omega]
      have hp : 2 ^ (8 * (r + 1)) ≤ 2 ^ 64 := Nat.pow_le_pow_right (by omega) (by omega)
      exact ih (r + 1) q' _ (by omega) (by omega) (by rw [uL_mul o2 (by rw [hv]; omega), hv, e1, e2])
  exact key 0 ((b + 7) / 8) fu 0 (by omega) (by omega) rfl
theorem m_valueOf {fu s b o : Nat} {t : Bool} {ov : Nat → Nat} {M : mwM} {L : mwL} (hfu : 100 ≤ fu) (hs : s < 40) (h761 : M 761 s = sI b) (b1 : 1 ≤ b) (b2 : b ≤ 64) (h765 : M 765 s = bI t) (h768 : M 768 s = sI (8 * o)) (ho : o + (b + 7) / 8 ≤ 8) (hov : ∀ y, y < 8 → M 926 y = sI (ov y) ∧ ov y < 256) : ∃ w, DX19_valueOf fu (sI s) M L = some (w, M, L) ∧ uL w = hiv (fun q => ov (o + pqf t ((b + 7) / 8) q)) ((b + 7) / 8) ((b + 7) / 8) % 2 ^ b := by
  generalize hO : (fun q => ov (o + pqf t ((b + 7) / 8) q)) = O
  have hO2 : ∀ q, O q = ov (o + pqf t ((b + 7) / 8) q) := fun q => by rw [← hO]
  have hO8 : ∀ q, q < (b + 7) / 8 → O q < 256 := fun q hq => by
    have := pqf_lt (t := t) hq
    rw [hO2]; exact (hov _ (by omega)).2
  generalize hX : hiv O ((b + 7) / 8) ((b + 7) / 8) = X
  have hbit : ∀ k, k < b → X / 2 ^ k % 2 = ov (o + pqf t ((b + 7) / 8) (k / 8)) / 2 ^ (k % 8) % 2 := fun k hk => by
    rw [← xb (V := X) (j := k), ← hX, hiv_oct hO8 _ (Nat.le_refl _) (k / 8) (by omega), Nat.sub_self, Nat.zero_add, hO2]
  have e8 : (sI b + 7) / 8 = sI ((b + 7) / 8) := by
    rw [sI_adl]
    exact sI_div (b := 8) (by omega) (by omega)
  unfold DX19_valueOf
  rw [mck_s hs (by omega), mlet_e, sI_nn (by omega), h761, e8]
  have key : ∀ (r k q : Nat) (v : Int64), k + r = b → r < q → uL v = X % 2 ^ k → ∃ w, fX19_valueOf_h18 fu (sI s) q (sI ((b + 7) / 8), v, sI k, M, L) = some (w, M, L) ∧ uL w = X % 2 ^ b := by
    intro r
    induction r with
    | zero =>
      intro k q v hk hq hv
      obtain ⟨q', rfl⟩ : ∃ y, q = y + 1 := ⟨q - 1, by omega⟩
      refine ⟨v, ?_, by rw [hv, show k = b from by omega]⟩
      show fX19_valueOf_i18 fu (sI s) (fX19_valueOf_h18 fu (sI s) q') (sI ((b + 7) / 8)) v (sI k) M L = _
      unfold fX19_valueOf_i18
      rw [mck_s hs (by omega), sI_nn (by omega), h761, if_pos (by rw [sI_le (by omega) (by omega)]; omega)]
    | succ r ih =>
      intro k q v hk hq hv
      obtain ⟨q', rfl⟩ : ∃ y, q = y + 1 := ⟨q - 1, by omega⟩
      have un : fX19_valueOf_h18 fu (sI s) (q' + 1) (sI ((b + 7) / 8), v, sI k, M, L) = fX19_valueOf_i18 fu (sI s) (fX19_valueOf_h18 fu (sI s) q') (sI ((b + 7) / 8)) v (sI k) M L := rfl
      rw [un]
      have hq0 : k / 8 < (b + 7) / 8 := by omega
      have hpq := pqf_lt (t := t) hq0
      have hr : k % 8 < 8 := Nat.mod_lt _ (by omega)
      obtain ⟨o1, o2⟩ := hov (o + pqf t ((b + 7) / 8) (k / 8)) (by omega)
      have hm : X % 2 ^ (k + 1) = X % 2 ^ k + 2 ^ k * (X / 2 ^ k % 2) := Nat.mod_pow_succ
      have hlt : X % 2 ^ k < 2 ^ k := Nat.mod_lt _ (Nat.pow_pos (by omega))
      have sh : ∀ h, h < 256 → ∀ r, r < 8 → (((sI h >>> (sI r &&& 31)) &&& 1 = 1) ↔ h / 2 ^ r % 2 = 1) := by decide +kernel
      have fin : ∀ p : Int32, p = sI (8 * (o + pqf t ((b + 7) / 8) (k / 8)) + k % 8) → ∃ w, fX19_valueOf_b75 fu (sI s) (fX19_valueOf_h18 fu (sI s) q') (sI ((b + 7) / 8)) v (sI k) p M L = some (w, M, L) ∧ uL w = X % 2 ^ b := by
        intro p hp
        have d8 : p / 8 = sI (o + pqf t ((b + 7) / 8) (k / 8)) := by
          rw [hp]
          have := sI_div (a := 8 * (o + pqf t ((b + 7) / 8) (k / 8)) + k % 8) (b := 8) (by omega) (by omega)
          rw [show (8 * (o + pqf t ((b + 7) / 8) (k / 8)) + k % 8) / 8 = o + pqf t ((b + 7) / 8) (k / 8) from by omega] at this
          exact this
        have m8 : p - p / 8 * 8 = sI (k % 8) := by
          rw [hp]
          have := sI_mod (a := 8 * (o + pqf t ((b + 7) / 8) (k / 8)) + k % 8) (b := 8) (by omega) (by omega)
          rw [show (8 * (o + pqf t ((b + 7) / 8) (k / 8)) + k % 8) % 8 = k % 8 from by omega] at this
          exact this
        unfold fX19_valueOf_b75 fX19_valueOf_b106
        rw [m8, d8, mck_s (by omega) (by omega), sI_nn (by omega), o1]
        by_cases c : ov (o + pqf t ((b + 7) / 8) (k / 8)) / 2 ^ (k % 8) % 2 = 1
        · rw [if_pos ((sh _ o2 _ hr).mpr c), mlet_e, mlet_e, sI_1]
          refine ih (k + 1) q' _ (by omega) (by omega) ?_
          rw [uL_or (by omega) (by rw [hv]; exact hlt), hv, hm, hbit k (by omega), c, Nat.mul_one]
        · rw [if_neg (fun w => c ((sh _ o2 _ hr).mp w)), mlet_e, sI_1]
          refine ih (k + 1) q' _ (by omega) (by omega) ?_
          rw [hv, hm, hbit k (by omega), show ov (o + pqf t ((b + 7) / 8) (k / 8)) / 2 ^ (k % 8) % 2 = 0 from by omega, Nat.mul_zero, Nat.add_zero]
      unfold fX19_valueOf_i18
      rw [mck_s hs (by omega), sI_nn (by omega), h761, if_neg (by rw [sI_le (by omega) (by omega)]; omega), mck_s hs (by omega), h765, h768]
      cases t with
      | false =>
        rw [bI_f, if_pos (show (0 : Int32) = 0 from rfl), mck_s hs (by omega), sI_add]
        refine fin _ ?_
        unfold pqf
        rw [if_neg (by decide), show 8 * o + k = 8 * (o + k / 8) + k % 8 from by omega]
      | true =>
        have ek : sI k / 8 = sI (k / 8) := sI_div (b := 8) (by omega) (by omega)
        have em : sI k - sI k / 8 * 8 = sI (k % 8) := sI_mod (b := 8) (by omega) (by omega)
        rw [bI_t, if_neg (show ¬ (1 : Int32) = 0 by decide), mck_s hs (by omega), em, ek, sI_dec (by omega), sI_sub (by omega), sI_lml, sI_add, sI_add]
        refine fin _ ?_
        unfold pqf
        rw [if_pos rfl, show 8 * o + 8 * ((b + 7) / 8 - 1 - k / 8) + k % 8 = 8 * (o + ((b + 7) / 8 - 1 - k / 8)) + k % 8 from by omega]
  exact key b 0 fu 0 (by omega) (by omega) (by rw [Nat.pow_zero, Nat.mod_one]; rfl)
theorem uL_inj {v w : Int64} (h : uL v = uL w) : v = w := by
  apply Int64.toBitVec_inj.mp
  exact BitVec.eq_of_toNat_eq h
/-! a protected frame is taken or refused -/
theorem bmodL {x : Nat} (h : x < 2000000000) : (x : Int).bmod (2 ^ 64) = x := by
  rw [Int.bmod_def]
  split <;> omega
theorem sL_div {a b : Nat} (ha : a < 2000000000) (hb : b < 2000000000) : sL a / sL b = sL (a / b) := by
  have hd : a / b ≤ a := Nat.div_le_self a b
  apply Int64.toInt_inj.mp
  rw [Int64.toInt_div, sL_toInt (by omega), sL_toInt (by omega), sL_toInt (by omega)]
  exact bmodL (x := a / b) (by omega)
theorem sL_mod {a b : Nat} (ha : a < 2000000000) (hb : b < 2000000000) : sL a - sL a / sL b * sL b = sL (a % b) := by
  have hm : a / b * b ≤ a := Nat.div_mul_le_self a b
  rw [sL_div ha hb, sL_mul, sL_sub hm]
  congr 1
  have := Nat.div_add_mod a b
  rw [Nat.mul_comm] at this
  omega
theorem sL_a255 {n : Nat} (h : n < 2000000000) : sL n &&& 255 = sL (n % 256) := by
  apply Int64.toBitVec_inj.mp
  apply BitVec.eq_of_toNat_eq
  show ((sL n).toBitVec &&& (255 : Int64).toBitVec).toNat = (sL (n % 256)).toBitVec.toNat
  have e1 : (sL n).toBitVec.toNat = n := uL_s h
  have e2 : (sL (n % 256)).toBitVec.toNat = n % 256 := uL_s (by omega)
  rw [BitVec.toNat_and, e1, e2, show (255 : Int64).toBitVec.toNat = 2 ^ 8 - 1 by decide, Nat.and_two_pow_sub_one_eq_mod]
theorem df_C {a b : Nat} (ha : a < 256) (hb : b < 2000000000) : (sI a - sI b) &&& 255 = sI ((a + 256 - b % 256) % 256) := by
  rw [and255]
  congr 1
  show ((sI a).toBitVec - (sI b).toBitVec).toNat % 256 = _
  have e1 : (sI a).toBitVec.toNat = a := uI_s (by omega)
  have e2 : (sI b).toBitVec.toNat = b := uI_s hb
  rw [BitVec.toNat_sub, e1, e2]
  omega
theorem df_M {a b : Nat} (ha : a < 256) (hb : b < 2000000000) : (((sI a).toInt64 - (sL b &&& 255)) + 256) - (((sI a).toInt64 - (sL b &&& 255)) + 256) / 256 * 256 = sL ((a + 256 - b % 256) % 256) := by
  have e : ((sI a).toInt64 - (sL b &&& 255)) + 256 = sL (a + 256 - b % 256) := by
    rw [sI_L (by omega), sL_a255 hb, ← sL_sub (by omega), ← sL_add]
    show sL a - sL (b % 256) + sL 256 = sL a + sL 256 - sL (b % 256)
    rw [Int64.sub_eq_add_neg, Int64.sub_eq_add_neg, Int64.add_assoc, Int64.add_comm (-sL (b % 256)), ← Int64.add_assoc]
  rw [e]
  exact sL_mod (b := 256) (by omega) (by omega)
theorem st_accept {fu c f P key row n3 cn : Nat} {A M : mwM} {Lc Lm : mwL} {Sb oc : Nat → Nat} (hfu : 300 ≤ fu) (hf : f < 40) (hc : c < 6) (hcn : cn < 1900000000) (hP : P < 40) (h78 : A 78 f = sI P) (h784 : M 784 f = sI P) (h76 : A 76 f = sI key) (h783 : M 783 f = sI key) (hk1 : 1 ≤ key) (hk2 : key ≤ 16) (hC : RCd A M Sb) (hK : KnC A Sb key) (hr1 : row ≠ 96) (hr2 : ¬ (137 ≤ row ∧ row ≤ 138)) (hn3 : 8 ≤ n3) (hn4 : n3 < 1000) (ho : ∀ i, i < 8 → A row i = sI (oc i) ∧ M 926 i = sI (oc i) ∧ oc i < 256) (h86 : A (86 + c) f = sI cn) (h786 : Lm 786 (6 * f + c) = sL cn) : ∃ (r : Bool) (A' M' : mwM) (Lm' : mwL), DX6_accept fu (sI c) (sI f) row n3 A Lc = some (bI r, A', Lc) ∧ DX19_right fu (sI c) (sI f) M Lm = some (bI r, M', Lm') ∧ RCd A' M' Sb ∧ (∃ cn', cn ≤ cn' ∧ cn' ≤ cn + 64 ∧ A' (86 + c) f = sI cn' ∧ Lm' 786 (6 * f + c) = sL cn') ∧ (∀ a y, a ≠ 96 → ¬ (137 ≤ a ∧ a ≤ 138) → ¬ (a = 86 + c ∧ y = f) → A' a y = A a y) ∧ (∀ a y, ¬ (a = 854 ∧ (y = 0 ∨ y = 6 ∨ y = 7)) → a ≠ 858 → a ≠ 859 → ¬ (863 ≤ a ∧ a ≤ 867) → M' a y = M a y) ∧ ∀ a y, ¬ (a = 786 ∧ y = 6 * f + c) → Lm' a y = Lm a y := by
  have e3 : (3 : Int32).toNatClampNeg = 3 := rfl
  obtain ⟨o1, o2, o3⟩ := ho 3 (by omega)
  have hd : (oc 3 + 256 - cn % 256) % 256 < 256 := Nat.mod_lt _ (by omega)
  generalize hdd : (oc 3 + 256 - cn % 256) % 256 = dd at hd
  have xC : (A row 3 - A (86 + c) f) &&& 255 = sI dd := by rw [o1, h86, df_C o3 (by omega), hdd]
  have xM : (((sI (oc 3)).toInt64 - (sL cn &&& 255)) + 256) - (((sI (oc 3)).toInt64 - (sL cn &&& 255)) + 256) / 256 * 256 = sL dd := by rw [df_M o3 (by omega), hdd]
  have l1 : (lg_cmp (sL dd) 1 < 0) ↔ dd < 1 := by
    rw [lg_cmp_lt]
    exact sL_lt (b := 1) (by omega) (by omega)
  have l64 : (lg_cmp (sL dd) 64 ≤ 0) ↔ dd ≤ 64 := by
    rw [lg_cmp_le]
    exact sL_le (b := 64) (by omega) (by omega)
  have n256 : ¬ (256 : Int64) = 0 := by decide
  unfold DX6_accept DX19_right fX6_accept_b30 fX19_right_b62
  rw [show (3 : Int32) = sI 3 from rfl, sI_lml, sI_add]
  simp (disch := omega) only [mck_s, sI_nn, mlet_e]
  rw [xC, h783, if_neg (show ¬ sI key = 0 by rw [show (0 : Int32) = sI 0 from rfl, sI_eq (by omega) (by omega)]; omega), h786, o2]
  unfold mnzL
  rw [if_neg n256, xM]
  have refuse : ∃ (r : Bool) (A' M' : mwM) (Lm' : mwL), some ((0 : Int32), A, Lc) = some (bI r, A', Lc) ∧ some ((0 : Int32), M, Lm) = some (bI r, M', Lm') ∧ RCd A' M' Sb ∧ (∃ cn', cn ≤ cn' ∧ cn' ≤ cn + 64 ∧ A' (86 + c) f = sI cn' ∧ Lm' 786 (6 * f + c) = sL cn') ∧ (∀ a y, a ≠ 96 → ¬ (137 ≤ a ∧ a ≤ 138) → ¬ (a = 86 + c ∧ y = f) → A' a y = A a y) ∧ (∀ a y, ¬ (a = 854 ∧ (y = 0 ∨ y = 6 ∨ y = 7)) → a ≠ 858 → a ≠ 859 → ¬ (863 ≤ a ∧ a ≤ 867) → M' a y = M a y) ∧ ∀ a y, ¬ (a = 786 ∧ y = 6 * f + c) → Lm' a y = Lm a y := ⟨false, A, M, Lm, rfl, rfl, hC, ⟨cn, by omega, by omega, h86, h786⟩, fun _ _ _ _ _ => rfl, fun _ _ _ _ _ _ => rfl, fun _ _ _ => rfl⟩
  by_cases z : dd = 0
  · rw [if_pos (show sI dd = 0 by rw [z]; rfl), if_pos (l1.mpr (by omega))]
    exact refuse
  · rw [if_neg (show ¬ sI dd = 0 by rw [show (0 : Int32) = sI 0 from rfl, sI_eq (by omega) (by omega)]; exact z), if_neg (show ¬ lg_cmp (sL dd) 1 < 0 from fun w => by have := l1.mp w; omega)]
    by_cases big : dd ≤ 64
    · rw [if_pos (show sI dd ≤ 64 by rw [sI_lel (by omega) (by decide)]; exact big), if_pos (l64.mpr big), h86, sI_add, sL_add]
      obtain ⟨A1, p1, p2, p3⟩ := c_makeCode (fu := fu) (f := f) (n := cn + dd) (P := P) (key := key) (row := row) (n3 := n3) (A := A) (M := M) (L := Lc) (S := Sb) (oc := oc) (by omega) hf (by omega) hP h78 h76 (by omega) hC hK hr1 (by omega) (by omega) hn3 (fun i hi => ⟨(ho i (by omega)).1, (ho i (by omega)).2.2⟩)
      obtain ⟨M1, q1, q2, q3, q4, q5⟩ := m_codeF (fu := fu) (f := f) (n := cn + dd) (P := P) (key := key) (A := A) (M := M) (L := Lm) (S := Sb) (oc := oc) (by omega) hf (by omega) hP h784 h783 hk1 hk2 hC (fun i hi => ⟨(ho i (by omega)).2.1, (ho i (by omega)).2.2⟩)
      rw [p1, mb2_s, q1, mb2_s]
      generalize hcm : cmac Sb (scN Sb key) 12 (vS P (cn + dd) oc) = cm at p2 q2
      have iso : DX3_isOut fu row n3 4 A1 Lc = some (bI (sam4 (fun i => oc (4 + i)) cm), A1, Lc) := c_isOut3 (fr := 4) (by omega) (by omega) (by omega) (fun i hi => by rw [p3 _ _ (by omega) (by omega) (by omega)]; exact ⟨(ho (4 + i) (by omega)).1, (ho (4 + i) (by omega)).2.2⟩) (fun i hi => p2 i (by omega))
      rw [iso, mb3_s]
      have hC1 : ∀ M2 : mwM, (∀ a y, ¬ (a = 854 ∧ (y = 0 ∨ y = 6 ∨ y = 7)) → a ≠ 858 → a ≠ 859 → ¬ (863 ≤ a ∧ a ≤ 867) → M2 a y = M a y) → M2 854 6 = 0 → ∀ A2 : mwM, (∀ a y, 98 ≤ a → a ≤ 136 → A2 a y = A a y) → RCd A2 M2 Sb := fun M2 w1 w2 A2 w3 => RCd_fr hC w3 (fun a y w => by
        by_cases e : a = 854 ∧ y = 6
        · rw [e.1, e.2, w2]; exact hC.2.2.2.2.1.symm
        · exact w1 a y (by omega) (by omega) (by omega) (by omega))
      -- the reference compares
      have key1 : ∀ (r i q : Nat) (B : mwM), i + r = 4 → r < q → (∀ x, x < i → oc (4 + x) = cm x) → (∀ a y, ¬ (a = 854 ∧ y = 0) → B a y = M1 a y) → ∃ B' Lm', fX19_right_h76 fu (sI c) (sI f) q (sL cn, sL dd, sI i, B, Lm) = some (bI (sam4 (fun i => oc (4 + i)) cm), B', Lm') ∧ (∀ a y, ¬ (a = 854 ∧ y = 0) → B' a y = M1 a y) ∧ (sam4 (fun i => oc (4 + i)) cm = false → Lm' = Lm) ∧ (sam4 (fun i => oc (4 + i)) cm = true → Lm' = mset Lm 786 (6 * f + c) (sL (cn + dd))) := by
        intro r
        induction r with
        | zero =>
          intro i q B hi hq h1 h2
          obtain ⟨q', rfl⟩ : ∃ y, q = y + 1 := ⟨q - 1, by omega⟩
          have es : sam4 (fun i => oc (4 + i)) cm = true := sam4_t (fun x hx => h1 x (by omega))
          refine ⟨B, mset Lm 786 (6 * f + c) (sL (cn + dd)), ?_, h2, fun w => (by rw [es] at w; cases w), fun _ => rfl⟩
          show fX19_right_i76 fu (sI c) (sI f) (fX19_right_h76 fu (sI c) (sI f) q') (sL cn) (sL dd) (sI i) B Lm = _
          unfold fX19_right_i76
          rw [if_pos (by rw [sI_lle (by decide) (by omega)]; omega), sI_lml, sI_add, mck_s (show 6 * f + c < 240 by omega) (by omega), mlet_e, sI_nn (by omega), sL_add, es]
          rfl
        | succ r ih =>
          intro i q B hi hq h1 h2
          obtain ⟨q', rfl⟩ : ∃ y, q = y + 1 := ⟨q - 1, by omega⟩
          have un : fX19_right_h76 fu (sI c) (sI f) (q' + 1) (sL cn, sL dd, sI i, B, Lm) = fX19_right_i76 fu (sI c) (sI f) (fX19_right_h76 fu (sI c) (sI f) q') (sL cn) (sL dd) (sI i) B Lm := rfl
          rw [un]
          obtain ⟨d1, d2⟩ := q2 i (by omega)
          obtain ⟨z, z1, z2⟩ := m_out (fu := fu) (M := B) (L := Lm) (i := i) (by omega) (by rw [h2 _ _ (by omega)]; exact q4) (by rw [h2 _ _ (by omega)]; exact d1) d2
          obtain ⟨v1, v2, v3⟩ := ho (4 + i) (by omega)
          unfold fX19_right_i76
          rw [if_neg (by rw [sI_lle (by decide) (by omega)]; omega), z1, mb3_s, sI_lad, mck_s (by omega) (by omega), z2, sI_nn (by omega), mset_n (show ¬ (926 = 854 ∧ 4 + i = 0) by omega), h2 _ _ (by omega), q5 _ _ (by omega) (by omega) (by omega) (by omega), v2]
          by_cases e : cm i = oc (4 + i)
          · rw [if_pos (by rw [e]), mlet_e, sI_1]
            exact ih (i + 1) q' _ (by omega) (by omega) (fun x hx => by
              by_cases ex : x = i
              · rw [ex]; exact e.symm
              · exact h1 x (by omega)) (fun a y w => by rw [mset_n w]; exact h2 a y w)
          · have es : sam4 (fun i => oc (4 + i)) cm = false := sam4_f (i := i) (by omega) (fun w => e w.symm)
            rw [if_neg (by rw [sI_eq (by omega) (by omega)]; exact e), es]
            exact ⟨_, Lm, rfl, fun a y w => by rw [mset_n w]; exact h2 a y w, fun _ => rfl, fun w => (by cases w)⟩
      obtain ⟨M2, Lm', k1, k2, k3, k4⟩ := key1 4 0 fu M1 (by omega) (by omega) (fun x hx => by omega) (fun _ _ _ => rfl)
      have k1' : fX19_right_h76 fu (sI c) (sI f) fu (sL cn, sL dd, 0, M1, Lm) = _ := k1
      rw [k1']
      have fM : ∀ a y, ¬ (a = 854 ∧ (y = 0 ∨ y = 6 ∨ y = 7)) → a ≠ 858 → a ≠ 859 → ¬ (863 ≤ a ∧ a ≤ 867) → M2 a y = M a y := fun a y w1 w2 w3 w4 => by rw [k2 a y (by omega)]; exact q5 a y w1 w2 w3 w4
      have m6 : M2 854 6 = 0 := by rw [k2 _ _ (by omega)]; exact q3
      cases hs : sam4 (fun i => oc (4 + i)) cm with
      | false =>
        rw [bI_f, if_pos (show (0 : Int32) = 0 from rfl), k3 hs]
        exact ⟨false, A1, M2, Lm, rfl, rfl, hC1 M2 fM m6 A1 (fun a y w1 w2 => p3 a y (by omega) (by omega) (by omega)), ⟨cn, by omega, by omega, by rw [p3 _ _ (by omega) (by omega) (by omega)]; exact h86, h786⟩, fun a y w1 w2 w3 => p3 a y w1 (by omega) (by omega), fM, fun _ _ _ => rfl⟩
      | true =>
        rw [bI_t, if_neg (show ¬ (1 : Int32) = 0 by decide), p3 _ _ (by omega) (by omega) (by omega), h86, sI_add, k4 hs]
        refine ⟨true, _, M2, _, rfl, rfl, hC1 M2 fM m6 _ (fun a y w1 w2 => by rw [mset_n (by omega)]; exact p3 a y (by omega) (by omega) (by omega)), ⟨cn + dd, by omega, by omega, by rw [mset_s], by rw [mset_s]⟩, fun a y w1 w2 w3 => by rw [mset_n w3]; exact p3 a y w1 (by omega) (by omega), fM, fun a y w => by rw [mset_n w]⟩
    · rw [if_neg (show ¬ sI dd ≤ 64 by rw [sI_lel (by omega) (by decide)]; exact big), if_neg (show ¬ lg_cmp (sL dd) 64 ≤ 0 from fun w => big (l64.mp w))]
      exact refuse
/-! a frame's signals are taken: those who watch -/
abbrev WtR (A M : mwM) (Lm : mwL) (W S : Nat) (ws wc : Nat → Nat) : Prop := A 139 2 = sI W ∧ M 732 62 = sI W ∧ W ≤ 30 ∧ ∀ w, w < W → A 141 w = sI (ws w) ∧ M 775 w = sI (ws w) ∧ ws w < S ∧ A 142 w = sI (wc w) ∧ M 776 w = sI (wc w) ∧ wc w < 6 ∧ M 777 w = sI (w + 1) ∧ ∃ nt, nt ≤ 20000 ∧ A 144 w = sI nt ∧ Lm 778 w = sL nt
theorem c_isInF {fu s f g : Nat} {A : mwM} {L : mwL} (hs : s < 40) (h : A 71 s = sI g) (hg : g < 40) (hf : f < 40) : DX6_isIn fu (sI s) (sI f) A L = some (bI (decide (g = f)), A, L) := by
  unfold DX6_isIn fX6_isIn_b18 mzz
  rw [mck_s hs (by omega), sI_nn (by omega), h]
  by_cases e : g = f
  · rw [if_pos (by rw [e]), if_pos (Or.inr rfl), decide_eq_true e]; rfl
  · rw [if_neg (by rw [sI_eq (by omega) (by omega)]; exact e), if_pos (Or.inl rfl), decide_eq_false e]; rfl
/-- who watches a signal of this frame -/
theorem st_watch {fu c f row n3 S W N E t : Nat} {fs ws wc : Nat → Nat} {A M : mwM} {Lc Lm : mwL} (hfu : 100 ≤ fu) (hc : c < 6) (hf : f < 40) (hS : S ≤ 40) (hfs : ∀ s, s < S → A 71 s = sI (fs s) ∧ M 767 s = sI (fs s) ∧ fs s < 40) (hW : WtR A M Lm W S ws wc) (hT : RTr A M W E) (hE : E < 800000000) (ht : t ≤ 20000) (h16 : A 3 16 = sI t) (h83 : M 732 83 = sI t) : ∃ A' M' Lm' E', fX1_takeSignals_b47 fu (sI c) (sI f) row n3 A Lc = fX1_takeSignals_h117 fu (sI c) (sI f) row n3 fu (0, A', Lc) ∧ fX19_come_h22 fu (sI c) (sI f) fu (0, M, Lm) = fX19_come_h90 fu (sI c) (sI f) fu (0, M', Lm') ∧ WtR A' M' Lm' W S ws wc ∧ RTr A' M' W E' ∧ E ≤ E' ∧ E' ≤ E + 30 ∧ (∀ a y, ¬ (a = 139 ∧ y = 5) → ¬ (144 ≤ a ∧ a ≤ 147) → A' a y = A a y) ∧ (∀ a y, ¬ (902 ≤ a ∧ a ≤ 920) → M' a y = M a y) ∧ ∀ a y, a ≠ 778 → Lm' a y = Lm a y := by
  unfold fX1_takeSignals_b47
  have key : ∀ (r w q q' : Nat) (B P : mwM) (Q : mwL) (E1 : Nat), w + r = W → r < q → r < q' → WtR B P Q W S ws wc → RTr B P W E1 → E ≤ E1 → E1 ≤ E + w → (∀ a y, ¬ (a = 139 ∧ y = 5) → ¬ (144 ≤ a ∧ a ≤ 147) → B a y = A a y) → (∀ a y, ¬ (902 ≤ a ∧ a ≤ 920) → P a y = M a y) → (∀ a y, a ≠ 778 → Q a y = Lm a y) → ∃ A' M' Lm' E', fX1_takeSignals_h50 fu (sI c) (sI f) row n3 q (sI w, B, Lc) = fX1_takeSignals_h117 fu (sI c) (sI f) row n3 fu (0, A', Lc) ∧ fX19_come_h22 fu (sI c) (sI f) q' (sI w, P, Q) = fX19_come_h90 fu (sI c) (sI f) fu (0, M', Lm') ∧ WtR A' M' Lm' W S ws wc ∧ RTr A' M' W E' ∧ E ≤ E' ∧ E' ≤ E + 30 ∧ (∀ a y, ¬ (a = 139 ∧ y = 5) → ¬ (144 ≤ a ∧ a ≤ 147) → A' a y = A a y) ∧ (∀ a y, ¬ (902 ≤ a ∧ a ≤ 920) → M' a y = M a y) ∧ ∀ a y, a ≠ 778 → Lm' a y = Lm a y := by
    intro r
    induction r with
    | zero =>
      intro w q q' B P Q E1 hw hq hq' kW kT k1 k2 fA fM fL
      obtain ⟨x, rfl⟩ : ∃ y, q = y + 1 := ⟨q - 1, by omega⟩
      obtain ⟨x', rfl⟩ : ∃ y, q' = y + 1 := ⟨q' - 1, by omega⟩
      obtain ⟨w1, w2, w3, w4⟩ := id kW
      refine ⟨B, P, Q, E1, ?_, ?_, kW, kT, k1, by omega, fA, fM, fL⟩
      · show fX1_takeSignals_i50 fu (sI c) (sI f) row n3 (fX1_takeSignals_h50 fu (sI c) (sI f) row n3 x) (sI w) B Lc = _
        unfold fX1_takeSignals_i50
        rw [w1, if_pos (by rw [sI_le (by omega) (by omega)]; omega)]
      · show fX19_come_i22 fu (sI c) (sI f) (fX19_come_h22 fu (sI c) (sI f) x') (sI w) P Q = _
        unfold fX19_come_i22
        rw [w2, if_pos (by rw [sI_le (by omega) (by omega)]; omega)]
    | succ r ih =>
      intro w q q' B P Q E1 hw hq hq' kW kT k1 k2 fA fM fL
      obtain ⟨x, rfl⟩ : ∃ y, q = y + 1 := ⟨q - 1, by omega⟩
      obtain ⟨x', rfl⟩ : ∃ y, q' = y + 1 := ⟨q' - 1, by omega⟩
      obtain ⟨w1, w2, w3, w4⟩ := id kW
      obtain ⟨a1, a2, a3, a4, a5, a6, a7, nt, a8, a9, a10⟩ := w4 w (by omega)
      obtain ⟨s1, s2, s3⟩ := hfs (ws w) a3
      have b71 : B 71 (ws w) = sI (fs (ws w)) := by rw [fA _ _ (by omega) (by omega)]; exact s1
      have p767 : P 767 (ws w) = sI (fs (ws w)) := by rw [fM _ _ (by omega)]; exact s2
      have unA : fX1_takeSignals_h50 fu (sI c) (sI f) row n3 (x + 1) (sI w, B, Lc) = fX1_takeSignals_i50 fu (sI c) (sI f) row n3 (fX1_takeSignals_h50 fu (sI c) (sI f) row n3 x) (sI w) B Lc := rfl
      have unM : fX19_come_h22 fu (sI c) (sI f) (x' + 1) (sI w, P, Q) = fX19_come_i22 fu (sI c) (sI f) (fX19_come_h22 fu (sI c) (sI f) x') (sI w) P Q := rfl
      rw [unA, unM]
      have nx := ih (w + 1) x x' B P Q E1 (by omega) (by omega) (by omega) kW kT k1 (by omega) fA fM fL
      unfold fX1_takeSignals_i50 fX1_takeSignals_b108 fX19_come_i22 fX19_come_b82 DX10_isWatching fX10_isWatching_b17 mzz
      rw [w1, if_neg (show ¬ sI W ≤ sI w by rw [sI_le (by omega) (by omega)]; omega), w2, if_neg (show ¬ sI W ≤ sI w by rw [sI_le (by omega) (by omega)]; omega), mck_s (show w < 30 by omega) (by omega), mck_s (show w < 30 by omega) (by omega), sI_nn (show w < 2000000000 by omega), a4, a5]
      by_cases e1 : wc w = c
      · rw [if_pos (show sI (wc w) = sI c by rw [e1]), if_pos (show sI (wc w) = sI c by rw [e1]), if_pos (show (1 : Int32) = 0 ∨ (1 : Int32) = 1 from Or.inr rfl), mb3_s, if_neg (show ¬ (1 : Int32) = 0 by decide)]
        unfold DX10_signalOf
        rw [mck_s (show w < 30 by omega) (by omega), mb3_s, sI_nn (show w < 2000000000 by omega), a1, c_isInF (by omega) b71 s3 hf, mb3_s, mck_s (show w < 30 by omega) (by omega), a2, mck_s (show ws w < 40 by omega) (by omega), sI_nn (show ws w < 2000000000 by omega), p767]
        by_cases e2 : fs (ws w) = f
        · rw [decide_eq_true e2, bI_t, if_neg (show ¬ (1 : Int32) = 0 by decide), if_pos (show sI (fs (ws w)) = sI f by rw [e2]), mck_s (show w < 30 by omega) (by omega), mlet_e, mck_s (show w < 30 by omega) (by omega), a7]
          have b16 : B 3 16 = sI t := by rw [fA _ _ (by omega) (by omega)]; exact h16
          have p83 : P 732 83 = sI t := by rw [fM _ _ (by omega)]; exact h83
          obtain ⟨B1, rv, P1, z1, z2, z3, z4, z5, z6⟩ := st_passed (fu := fu) (L := Lc) (L2 := mset Q 778 w (sL t)) (tm := sI t) (i := w) (by omega) (by omega) (by omega) kT
          rw [b16, p83, sI_L (by omega), z1, z2, mb2_s, mb3_s, mlet_e, mlet_e, sI_1]
          refine ih (w + 1) x x' B1 P1 _ (E1 + 1) (by omega) (by omega) (by omega) ⟨?_, ?_, w3, fun v hv => ?_⟩ z3 (by omega) (by omega) (fun a y u1 u2 => by rw [z5 a y u1 (by omega)]; exact fA a y u1 u2) (fun a y u => by rw [z6 a y u]; exact fM a y u) (fun a y u => by rw [mset_n (by omega)]; exact fL a y u)
          · rw [z5 _ _ (by omega) (by omega)]; exact w1
          · rw [z6 _ _ (by omega)]; exact w2
          · obtain ⟨v1, v2, v3, v4, v5, v6, v7, nt', v8, v9, v10⟩ := w4 v hv
            refine ⟨by rw [z5 _ _ (by omega) (by omega)]; exact v1, by rw [z6 _ _ (by omega)]; exact v2, v3, by rw [z5 _ _ (by omega) (by omega)]; exact v4, by rw [z6 _ _ (by omega)]; exact v5, v6, by rw [z6 _ _ (by omega)]; exact v7, ?_⟩
            by_cases ev : v = w
            · rw [ev]
              exact ⟨t, ht, z4, by rw [mset_s]⟩
            · exact ⟨nt', v8, by rw [z5 _ _ (by omega) (by omega)]; exact v9, by rw [mset_n (by omega)]; exact v10⟩
        · rw [decide_eq_false e2, bI_f, if_pos (show (0 : Int32) = 0 from rfl), if_neg (show ¬ sI (fs (ws w)) = sI f by rw [sI_eq (by omega) (by omega)]; exact e2), mlet_e, mlet_e, sI_1]
          exact nx
      · rw [if_neg (show ¬ sI (wc w) = sI c by rw [sI_eq (by omega) (by omega)]; exact e1), if_neg (show ¬ sI (wc w) = sI c by rw [sI_eq (by omega) (by omega)]; exact e1), if_pos (show (0 : Int32) = 0 ∨ (0 : Int32) = 1 from Or.inl rfl), mb3_s, if_pos (show (0 : Int32) = 0 from rfl), mlet_e, mlet_e, sI_1]
        exact nx
  obtain ⟨w1, w2, w3, w4⟩ := id hW
  exact key W 0 fu fu A M Lm E (by omega) (by omega) (by omega) hW hT (by omega) (by omega) (fun _ _ _ _ => rfl) (fun _ _ _ => rfl) (fun _ _ _ => rfl)
/-! a frame's signals are taken: those who read -/
abbrev RdR (A M : mwM) (Lc Lm : mwL) (R S X : Nat) (rs rc rd re : Nat → Nat) : Prop := A 3 15 = sI R ∧ M 732 55 = sI R ∧ R ≤ 60 ∧ ∀ r, r < R → A 286 r = sI (rs r) ∧ M 769 r = sI (rs r) ∧ rs r < S ∧ A 287 r = sI (rc r) ∧ M 770 r = sI (rc r) ∧ rc r < X ∧ A 288 r = sI (rd r) ∧ M 771 r = sI (rd r) ∧ rd r < 32 ∧ A 289 r = sI (re r) ∧ M 772 r = sI (re r) ∧ re r < 1000 ∧ ∃ h : Bool, A 290 r = bI h ∧ M 773 r = bI h ∧ (h = true → Lc 291 r = Lm 774 r)
abbrev ChW (A M : mwM) (X : Nat) (cc : Nat → Nat) : Prop := X ≤ 12 ∧ ∀ x, x < X → A (293 + 36 * x) 5 = sI (cc x) ∧ cc x < 6 ∧ ∃ tk, tk < 12 ∧ M 749 x = sI tk ∧ M 742 tk = sI (cc x)
def QdR (A M : mwM) (Lc Lm : mwL) (x : Nat) : Prop := ∃ qn, qn ≤ 16 ∧ A (293 + 36 * x) 11 = sI qn ∧ M 752 x = sI qn ∧ (∀ i, i < qn → A (293 + 36 * x + 35) i = M 753 (16 * x + i) ∧ ∃ es, es < 1000 ∧ A (293 + 36 * x + 35) i = sI es) ∧ Lc (293 + 36 * x + 34) = Lm (964 + 53 * x + 21)
abbrev tkA (A A' : mwM) : Prop := ∀ a y, a ≠ 290 → ¬ (a = 292 ∧ y = 2) → ¬ (293 ≤ a ∧ (((a - 293) % 36 = 0 ∧ y = 11) ∨ (a - 293) % 36 = 35)) → A' a y = A a y
abbrev tkM (M M' : mwM) : Prop := ∀ a y, a ≠ 773 → ¬ (a = 939 ∧ y = 2) → a ≠ 752 → a ≠ 753 → M' a y = M a y
abbrev tkLc (L L' : mwL) : Prop := ∀ a y, a ≠ 291 → ¬ (293 ≤ a ∧ (a - 293) % 36 = 34 ∧ y < 32) → L' a y = L a y
abbrev tkLm (L L' : mwL) : Prop := ∀ a y, a ≠ 774 → ¬ (964 ≤ a ∧ (a - 964) % 53 = 21 ∧ y < 32) → L' a y = L a y
theorem QdR_o {A A' M M' : mwM} {Lc Lc' Lm Lm' : mwL} {x z : Nat} (h : QdR A M Lc Lm z) (ne : z ≠ x) (hz : z < 12) (hA : ∀ a y, (a = 293 + 36 * z ∧ y = 11) ∨ a = 293 + 36 * z + 35 → A' a y = A a y) (hM : ∀ a y, (a = 752 ∧ y = z) ∨ (a = 753 ∧ 16 * z ≤ y ∧ y < 16 * z + 16) → M' a y = M a y) (hC : ∀ y, Lc' (293 + 36 * z + 34) y = Lc (293 + 36 * z + 34) y) (hL : ∀ y, Lm' (964 + 53 * z + 21) y = Lm (964 + 53 * z + 21) y) : QdR A' M' Lc' Lm' z := by
  obtain ⟨qn, q1, q2, q3, q4, q5⟩ := h
  exact ⟨qn, q1, by rw [hA _ _ (by omega)]; exact q2, by rw [hM _ _ (by omega)]; exact q3, fun i hi => by rw [hA _ _ (by omega), hM _ _ (by omega)]; exact q4 i hi, by rw [funext hC, funext hL]; exact q5⟩
theorem st_read1 {fu c f r R S X : Nat} {rs rc rd re : Nat → Nat} {v : Int64} {A M : mwM} {Lc Lm : mwL} (rrM : (Int32 × mwM × mwL) → Option (mwM × mwL)) (hr : r < R) (hR : RdR A M Lc Lm R S X rs rc rd re) (hX : X ≤ 12) (hQ : ∀ x, x < X → QdR A M Lc Lm x) (h2 : A 292 2 = M 939 2) : ∃ A' Lc' M' Lm', DX1_takeRead fu (sI r) v A Lc = some (A', Lc') ∧ (if M 773 r = 0 then fX19_come_b173 fu (sI c) (sI f) rrM (sI r) (sI (rc r)) v M Lm else mck (sI r) 60 (if lg_cmp (Lm 774 r) v = 0 then fX19_come_b178 fu (sI c) (sI f) rrM (sI r) (sI (rc r)) v 0 M Lm else fX19_come_b173 fu (sI c) (sI f) rrM (sI r) (sI (rc r)) v M Lm)) = rrM (sI (r + 1), M', Lm') ∧ RdR A' M' Lc' Lm' R S X rs rc rd re ∧ (∀ x, x < X → QdR A' M' Lc' Lm' x) ∧ A' 292 2 = M' 939 2 ∧ tkA A A' ∧ tkM M M' ∧ tkLc Lc Lc' ∧ tkLm Lm Lm' := by
  obtain ⟨g1, g2, g3, g4⟩ := id hR
  obtain ⟨a1, a2, a3, a4, a5, a6, a7, a8, a9, a10, a11, a12, h, a13, a14, a15⟩ := g4 r hr
  have e2 : (2 : Int32).toNatClampNeg = 2 := rfl
  -- another value
  have other : ∃ A' Lc' M' Lm', fX1_takeRead_b24 fu (sI r) v A Lc = some (A', Lc') ∧ fX19_come_b173 fu (sI c) (sI f) rrM (sI r) (sI (rc r)) v M Lm = rrM (sI (r + 1), M', Lm') ∧ RdR A' M' Lc' Lm' R S X rs rc rd re ∧ (∀ x, x < X → QdR A' M' Lc' Lm' x) ∧ A' 292 2 = M' 939 2 ∧ tkA A A' ∧ tkM M M' ∧ tkLc Lc Lc' ∧ tkLm Lm Lm' := by
    unfold fX1_takeRead_b24 fX1_takeRead_b107 fX19_come_b173 fX19_come_b178 fX19_come_b252 fX19_come_b308 DX13_put
    rw [show vp_nar .boolean 1 = (1 : Int32) from rfl]
    generalize hA1 : mset A 290 (sI r).toNatClampNeg 1 = A1
    generalize hM1 : mset M 773 (sI r).toNatClampNeg 1 = M1
    rw [sI_nn (show r < 2000000000 by omega)] at hA1 hM1
    have tA1 : ∀ a y, ¬ (a = 290 ∧ y = r) → A1 a y = A a y := fun a y u => by rw [← hA1, mset_n u]
    have tM1 : ∀ a y, ¬ (a = 773 ∧ y = r) → M1 a y = M a y := fun a y u => by rw [← hM1, mset_n u]
    simp (disch := omega) only [mck_s, sI_nn, mlet_e]
    rw [tA1 287 r (by omega), tA1 288 r (by omega), tA1 289 r (by omega), a4, a7, a10, tM1 771 r (by omega), a8, if_neg (show ¬ (1 : Int32) = 0 by decide)]
    simp (disch := omega) only [mck_s, sI_nn, mb2_s]
    rw [tM1 772 r (by omega), a11, tM1 752 (rc r) (by omega)]
    obtain ⟨qn, q1, q2, q3, q4, q5⟩ := hQ (rc r) a6
    generalize hLc : mset (mset Lc 291 r v) (293 + 36 * rc r + 34) (rd r) v = Lc1
    generalize hLm : mset (mset Lm 774 r v) (964 + 53 * rc r + 21) (rd r) v = Lm1
    have fLc : tkLc Lc Lc1 := fun a y u1 u2 => by rw [← hLc, mset_n (by omega), mset_n (by omega)]
    have fLm : tkLm Lm Lm1 := fun a y u1 u2 => by rw [← hLm, mset_n (by omega), mset_n (by omega)]
    have dat : ∀ x, x < X → Lc1 (293 + 36 * x + 34) = Lm1 (964 + 53 * x + 21) := fun x hx => by
      obtain ⟨_, _, _, _, _, q⟩ := hQ x hx
      apply funext
      intro b
      have qb := congrFun q b
      by_cases e : x = rc r ∧ b = rd r
      · rw [e.1, e.2, ← hLc, ← hLm, mset_s, mset_s]
      · rw [← hLc, ← hLm, mset_n (by omega), mset_n (by omega), mset_n (by omega), mset_n (by omega)]
        exact qb
    -- what stays
    have rest : ∀ A2 M2 : mwM, (∀ a y, ¬ (a = 292 ∧ y = 2) → ¬ (a = 293 + 36 * rc r ∧ y = 11) → ¬ (a = 293 + 36 * rc r + 35) → A2 a y = A1 a y) → (∀ a y, ¬ (a = 939 ∧ y = 2) → ¬ (a = 752 ∧ y = rc r) → ¬ (a = 753 ∧ 16 * rc r ≤ y ∧ y < 16 * rc r + 16) → M2 a y = M1 a y) → A2 292 2 = M2 939 2 → (∃ qn, qn ≤ 16 ∧ A2 (293 + 36 * rc r) 11 = sI qn ∧ M2 752 (rc r) = sI qn ∧ ∀ i, i < qn → A2 (293 + 36 * rc r + 35) i = M2 753 (16 * rc r + i) ∧ ∃ es, es < 1000 ∧ A2 (293 + 36 * rc r + 35) i = sI es) → RdR A2 M2 Lc1 Lm1 R S X rs rc rd re ∧ (∀ x, x < X → QdR A2 M2 Lc1 Lm1 x) ∧ A2 292 2 = M2 939 2 ∧ tkA A A2 ∧ tkM M M2 ∧ tkLc Lc Lc1 ∧ tkLm Lm Lm1 := by
      intro A2 M2 hA2 hM2 h22 hq
      have sA : ∀ a y, ¬ (a = 290 ∧ y = r) → ¬ (a = 292 ∧ y = 2) → ¬ (a = 293 + 36 * rc r ∧ y = 11) → ¬ (a = 293 + 36 * rc r + 35) → A2 a y = A a y := fun a y u1 u2 u3 u4 => by rw [hA2 a y u2 u3 u4]; exact tA1 a y u1
      have sM : ∀ a y, ¬ (a = 773 ∧ y = r) → ¬ (a = 939 ∧ y = 2) → ¬ (a = 752 ∧ y = rc r) → ¬ (a = 753 ∧ 16 * rc r ≤ y ∧ y < 16 * rc r + 16) → M2 a y = M a y := fun a y u1 u2 u3 u4 => by rw [hM2 a y u2 u3 u4]; exact tM1 a y u1
      refine ⟨⟨by rw [sA _ _ (by omega) (by omega) (by omega) (by omega)]; exact g1, by rw [sM _ _ (by omega) (by omega) (by omega) (by omega)]; exact g2, g3, fun s hs => ?_⟩, fun x hx => ?_, h22, fun a y u1 u2 u3 => sA a y (by omega) u2 (by omega) (by omega), fun a y u1 u2 u3 u4 => sM a y (by omega) u2 (by omega) (by omega), fLc, fLm⟩
      · obtain ⟨b1, b2, b3, b4, b5, b6, b7, b8, b9, b10, b11, b12, hh, b13, b14, b15⟩ := g4 s hs
        refine ⟨by rw [sA _ _ (by omega) (by omega) (by omega) (by omega)]; exact b1, by rw [sM _ _ (by omega) (by omega) (by omega) (by omega)]; exact b2, b3, by rw [sA _ _ (by omega) (by omega) (by omega) (by omega)]; exact b4, by rw [sM _ _ (by omega) (by omega) (by omega) (by omega)]; exact b5, b6, by rw [sA _ _ (by omega) (by omega) (by omega) (by omega)]; exact b7, by rw [sM _ _ (by omega) (by omega) (by omega) (by omega)]; exact b8, b9, by rw [sA _ _ (by omega) (by omega) (by omega) (by omega)]; exact b10, by rw [sM _ _ (by omega) (by omega) (by omega) (by omega)]; exact b11, b12, ?_⟩
        by_cases e : s = r
        · subst e
          refine ⟨true, by rw [hA2 _ _ (by omega) (by omega) (by omega), ← hA1, mset_s]; rfl, by rw [hM2 _ _ (by omega) (by omega) (by omega), ← hM1, mset_s]; rfl, fun _ => ?_⟩
          rw [← hLc, ← hLm, mset_n (by omega), mset_s, mset_n (by omega), mset_s]
        · refine ⟨hh, by rw [sA _ _ (by omega) (by omega) (by omega) (by omega)]; exact b13, by rw [sM _ _ (by omega) (by omega) (by omega) (by omega)]; exact b14, fun w => ?_⟩
          rw [← hLc, ← hLm, mset_n (by omega), mset_n (by omega), mset_n (by omega), mset_n (by omega)]
          exact b15 w
      · by_cases e : x = rc r
        · rw [e]
          obtain ⟨qn, k1, k2, k3, k4⟩ := hq
          exact ⟨qn, k1, k2, k3, k4, dat (rc r) a6⟩
        · obtain ⟨qx, k1, k2, k3, k4, k5⟩ := hQ x hx
          exact ⟨qx, k1, by rw [sA _ _ (by omega) (by omega) (by omega) (by omega)]; exact k2, by rw [sM _ _ (by omega) (by omega) (by omega) (by omega)]; exact k3, fun i hi => by rw [sA _ _ (by omega) (by omega) (by omega) (by omega), sM _ _ (by omega) (by omega) (by omega) (by omega)]; exact k4 i hi, dat x hx⟩
    have h22 : A1 292 2 = M1 939 2 := by rw [tA1 _ _ (by omega), tM1 _ _ (by omega)]; exact h2
    have A11 : A1 (293 + 36 * rc r) 11 = sI qn := by rw [tA1 _ _ (by omega)]; exact q2
    have M752 : M1 752 (rc r) = sI qn := by rw [tM1 _ _ (by omega)]; exact q3
    have old : ∀ i, i < qn → A1 (293 + 36 * rc r + 35) i = M1 753 (16 * rc r + i) ∧ ∃ es, es < 1000 ∧ A1 (293 + 36 * rc r + 35) i = sI es := fun i hi => by rw [tA1 _ _ (by omega), tM1 _ _ (by omega)]; exact q4 i hi
    rw [sI_1]
    by_cases z : re r = 0
    · have z1 : sI (re r) = 0 := by rw [z]; rfl
      rw [z1, if_pos (show (0 : Int32) = 0 from rfl), if_pos (show (0 : Int32) ≤ 0 by decide), if_pos (show (0 : Int32) ≤ 0 by decide)]
      exact ⟨A1, Lc1, M1, Lm1, rfl, rfl, rest A1 M1 (fun _ _ _ _ _ => rfl) (fun _ _ _ _ _ => rfl) h22 ⟨qn, q1, A11, M752, old⟩⟩
    · rw [if_neg (show ¬ sI (re r) = 0 by rw [show (0 : Int32) = sI 0 from rfl, sI_eq (by omega) (by omega)]; exact z), if_neg (show ¬ sI (re r) ≤ 0 by rw [sI_lel (by omega) (by decide)]; omega), if_neg (show ¬ sI (re r) ≤ 0 by rw [sI_lel (by omega) (by decide)]; omega), q3]
      unfold DX2_queue
      rw [A11]
      by_cases full : qn = 16
      · subst full
        rw [if_neg (show ¬ sI 16 < 16 by decide), mb3_s, if_pos (show (0 : Int32) = 0 from rfl), if_pos (show sI 16 = 16 from rfl), e2]
        rw [mset_n (show ¬ (772 = 939 ∧ r = 2) by omega), mset_n (show ¬ (752 = 939 ∧ rc r = 2) by omega), tM1 772 r (by omega), a11, if_neg (show ¬ sI (re r) ≤ 0 by rw [sI_lel (by omega) (by decide)]; omega), M752, if_pos (show (16 : Int32) ≤ sI 16 by decide)]
        refine ⟨_, Lc1, _, Lm1, rfl, rfl, rest _ _ (fun a y u1 u2 u3 => by rw [mset_n u1]) (fun a y u1 u2 u3 => by rw [mset_n u1]) (by rw [mset_s, mset_s, h22]) ⟨16, by omega, by rw [mset_n (by omega)]; exact A11, by rw [mset_n (by omega)]; exact M752, fun i hi => by rw [mset_n (by omega), mset_n (by omega)]; exact old i hi⟩⟩
      · rw [if_pos (show sI qn < 16 by rw [sI_ltl (by omega) (by decide)]; omega), mck_s (show qn < 16 by omega) (by omega), mlet_e, mlet_e, mb3_s, if_neg (show ¬ (1 : Int32) = 0 by decide), if_neg (show ¬ sI qn = 16 by rw [sI_eql (by omega) (by decide)]; omega), if_neg (show ¬ (16 : Int32) ≤ sI qn by rw [sI_lle (by decide) (by omega)]; omega), sI_lml, sI_add, mck_s (show 16 * rc r + qn < 192 by omega) (by omega), sI_nn (show 16 * rc r + qn < 2000000000 by omega), sI_nn (show qn < 2000000000 by omega), mset_n (show ¬ (293 + 36 * rc r = 293 + 36 * rc r + 35 ∧ 11 = qn) by omega), A11, mset_n (show ¬ (752 = 753 ∧ rc r = 16 * rc r + qn) by omega), M752, sI_1]
        refine ⟨_, Lc1, _, Lm1, rfl, rfl, rest _ _ (fun a y u1 u2 u3 => by rw [mset_n (by omega), mset_n (by omega)]) (fun a y u1 u2 u3 => by rw [mset_n (by omega), mset_n (by omega)]) (by rw [mset_n (by omega), mset_n (by omega), mset_n (by omega), mset_n (by omega)]; exact h22) ⟨qn + 1, by omega, by rw [mset_s], by rw [mset_s], fun i hi => ?_⟩⟩
        by_cases e : i = qn
        · rw [e, mset_n (by omega), mset_s, mset_n (by omega), mset_s]
          exact ⟨rfl, re r, a12, rfl⟩
        · rw [mset_n (by omega), mset_n (by omega), mset_n (by omega), mset_n (by omega)]
          exact old i (by omega)
  unfold DX1_takeRead
  rw [mck_s (show r < 60 by omega) (by omega), sI_nn (show r < 2000000000 by omega), a13, a14, mck_s (show r < 60 by omega) (by omega), mck_s (show r < 60 by omega) (by omega)]
  cases hh : h with
  | false =>
    rw [bI_f, if_neg (show ¬ (0 : Int32) = 1 by decide), if_pos (show (0 : Int32) = 0 from rfl)]
    exact other
  | true =>
    rw [bI_t, if_pos (show (1 : Int32) = 1 from rfl), if_neg (show ¬ (1 : Int32) = 0 by decide), a15 hh]
    by_cases same : lg_cmp (Lm 774 r) v = 0
    · rw [if_pos same, if_pos same]
      have ev : Lm 774 r = v := (lg_cmp_eq _ _).mp same
      unfold fX19_come_b178 fX19_come_b308
      rw [mck_s (show r < 60 by omega) (by omega), mlet_e, mck_s (show r < 60 by omega) (by omega), mlet_e, if_pos (show (0 : Int32) = 0 from rfl), mlet_e, sI_nn (show r < 2000000000 by omega), sI_1, show vp_nar .boolean 1 = (1 : Int32) from rfl]
      refine ⟨A, Lc, mset M 773 r 1, mset Lm 774 r v, rfl, rfl, ⟨g1, by rw [mset_n (by omega)]; exact g2, g3, fun s hs => ?_⟩, fun x hx => ?_, by rw [mset_n (by omega)]; exact h2, fun _ _ _ _ _ => rfl, fun a y u1 u2 u3 u4 => by rw [mset_n (by omega)], fun _ _ _ _ => rfl, fun a y u1 u2 => by rw [mset_n (by omega)]⟩
      · obtain ⟨b1, b2, b3, b4, b5, b6, b7, b8, b9, b10, b11, b12, h', b13, b14, b15⟩ := g4 s hs
        refine ⟨b1, by rw [mset_n (by omega)]; exact b2, b3, b4, by rw [mset_n (by omega)]; exact b5, b6, b7, by rw [mset_n (by omega)]; exact b8, b9, b10, by rw [mset_n (by omega)]; exact b11, b12, ?_⟩
        by_cases e : s = r
        · subst e
          exact ⟨true, by rw [a13, hh], by rw [mset_s]; rfl, fun _ => by rw [mset_s, a15 hh, ev]⟩
        · exact ⟨h', b13, by rw [mset_n (by omega)]; exact b14, fun w => by rw [mset_n (by omega)]; exact b15 w⟩
      · obtain ⟨qx, k1, k2, k3, k4, k5⟩ := hQ x hx
        exact ⟨qx, k1, k2, by rw [mset_n (by omega)]; exact k3, fun i hi => by rw [mset_n (by omega)]; exact k4 i hi, by rw [mset_rown (by omega)]; exact k5⟩
    · rw [if_neg same, if_neg same]
      exact other
/-! a frame has come -/
theorem ChO_f {A A' M M' : mwM} {X : Nat} {own : Nat → Nat} (h : ChO A M X own) (hA : ∀ x, x < 12 → A' (293 + 36 * x) 5 = A (293 + 36 * x) 5) (hM : ∀ a y, (a = 732 ∧ y = 33) ∨ a = 749 ∨ a = 742 → M' a y = M a y) : ChO A' M' X own := by
  obtain ⟨h1, h2, h3, h4⟩ := h
  refine ⟨h1, by rw [hM _ _ (by omega)]; exact h2, fun x hx => ?_, fun x hx hx2 => by rw [hA x hx2]; exact h4 x hx hx2⟩
  obtain ⟨k1, k2, t, k3, k4, k5⟩ := h3 x hx
  exact ⟨k1, by rw [hA x (by omega)]; exact k2, t, k3, by rw [hM _ _ (by omega)]; exact k4, by rw [hM _ _ (by omega)]; exact k5⟩
theorem st_reads {fu c f row n3 S F R X : Nat} {d : Nat → Nat → Nat} {tu : Nat → Bool} {rs rc rd re own ov : Nat → Nat} (hfu : 100 ≤ fu) (hc : c < 6) (hf : f < 40) (hrow : row < 61) (hn3 : 8 ≤ n3) (hn4 : n3 < 1000) : ∀ (k r q q' : Nat) (A M : mwM) (Lc Lm : mwL), r + k = R → k < q → k < q' → FrS A M S F d tu → ChO A M X own → RdR A M Lc Lm R S X rs rc rd re → (∀ x, x < X → QdR A M Lc Lm x) → A 292 2 = M 939 2 → (∀ y, y < 8 → A row y = sI (ov y) ∧ M 926 y = sI (ov y) ∧ ov y < 256) → ∃ A' Lc' M' Lm', fX1_takeSignals_h117 fu (sI c) (sI f) row n3 q (sI r, A, Lc) = some (A', Lc') ∧ fX19_come_h90 fu (sI c) (sI f) q' (sI r, M, Lm) = some (M', Lm') ∧ FrS A' M' S F d tu ∧ ChO A' M' X own ∧ RdR A' M' Lc' Lm' R S X rs rc rd re ∧ (∀ x, x < X → QdR A' M' Lc' Lm' x) ∧ A' 292 2 = M' 939 2 ∧ tkA A A' ∧ tkM M M' ∧ tkLc Lc Lc' ∧ tkLm Lm Lm' := by
  intro k
  induction k with
  | zero =>
    intro r q q' A M Lc Lm hr hq hq' hS hO hR hQ h2 hov
    obtain ⟨x, rfl⟩ : ∃ y, q = y + 1 := ⟨q - 1, by omega⟩
    obtain ⟨x', rfl⟩ : ∃ y, q' = y + 1 := ⟨q' - 1, by omega⟩
    obtain ⟨g1, g2, g3, g4⟩ := id hR
    refine ⟨A, Lc, M, Lm, ?_, ?_, hS, hO, hR, hQ, h2, fun _ _ _ _ _ => rfl, fun _ _ _ _ _ _ => rfl, fun _ _ _ _ => rfl, fun _ _ _ _ => rfl⟩
    · show fX1_takeSignals_i117 fu (sI c) (sI f) row n3 (fX1_takeSignals_h117 fu (sI c) (sI f) row n3 x) (sI r) A Lc = _
      unfold fX1_takeSignals_i117
      rw [g1, if_pos (by rw [sI_le (by omega) (by omega)]; omega)]
    · show fX19_come_i90 fu (sI c) (sI f) (fX19_come_h90 fu (sI c) (sI f) x') (sI r) M Lm = _
      unfold fX19_come_i90
      rw [g2, if_pos (by rw [sI_le (by omega) (by omega)]; omega)]
  | succ k ih =>
    intro r q q' A M Lc Lm hr hq hq' hS hO hR hQ h2 hov
    obtain ⟨x, rfl⟩ : ∃ y, q = y + 1 := ⟨q - 1, by omega⟩
    obtain ⟨x', rfl⟩ : ∃ y, q' = y + 1 := ⟨q' - 1, by omega⟩
    obtain ⟨g1, g2, g3, g4⟩ := id hR
    obtain ⟨a1, a2, a3, a4, a5, a6, a7, a8, a9, a10, a11, a12, h, a13, a14, a15⟩ := g4 r (by omega)
    obtain ⟨o1, o2, o3, o4⟩ := id hO
    obtain ⟨w1, w2, tk, w3, w4, w5⟩ := o3 (rc r) a6
    have hF40 := hS.2.2.2.2.2.1
    have hS40 := hS.2.2.1
    obtain ⟨k1, k2, k3, k4, ⟨b1, b2, b3, b4, b5, b6, b7, b8, b9, b10, b11, b12, b13, b14, b15, b16⟩, c1, c2, c3, c4, c5, c6, c7, c8, c9, c10, c11, c12, c13, c14, c15, c16⟩ := hS.2.2.2.2.2.2.2.1 (rs r) a3
    have hcp := cpk_8 (y := d 3 (rs r))
    have unA : fX1_takeSignals_h117 fu (sI c) (sI f) row n3 (x + 1) (sI r, A, Lc) = fX1_takeSignals_i117 fu (sI c) (sI f) row n3 (fX1_takeSignals_h117 fu (sI c) (sI f) row n3 x) (sI r) A Lc := rfl
    have unM : fX19_come_h90 fu (sI c) (sI f) (x' + 1) (sI r, M, Lm) = fX19_come_i90 fu (sI c) (sI f) (fX19_come_h90 fu (sI c) (sI f) x') (sI r) M Lm := rfl
    rw [unA, unM]
    have nx := ih (r + 1) x x' A M Lc Lm (by omega) (by omega) (by omega) hS hO hR hQ h2 hov
    unfold fX1_takeSignals_i117 fX1_takeSignals_b190 fX19_come_i90 
    rw [g1, if_neg (show ¬ sI R ≤ sI r by rw [sI_le (by omega) (by omega)]; omega), g2, if_neg (show ¬ sI R ≤ sI r by rw [sI_le (by omega) (by omega)]; omega)]
    simp (disch := omega) only [mck_s, sI_nn, mlet_e, a4, a5, a1, a2, Nat.add_zero]
    rw [w2, w4, mck_s w3 (by omega), sI_nn (show tk < 2000000000 by omega), w5]
    have skipM : fX19_come_b308 fu (sI c) (sI f) (fX19_come_h90 fu (sI c) (sI f) x') (sI r) M Lm = fX19_come_h90 fu (sI c) (sI f) x' (sI (r + 1), M, Lm) := by
      unfold fX19_come_b308
      rw [mlet_e, sI_1]
    rw [skipM, sI_1]
    by_cases e1 : own (rc r) = c
    · rw [if_pos (show sI (own (rc r)) = sI c by rw [e1]), if_pos (show sI (own (rc r)) = sI c by rw [e1]), c_isInF (by omega) b1 (by omega) hf, mb3_s, b3]
      by_cases e2 : d 6 (rs r) = f
      · rw [decide_eq_true e2, bI_t, if_neg (show ¬ (1 : Int32) = 0 by decide), if_pos (show sI (d 6 (rs r)) = sI f by rw [e2])]
        obtain ⟨v, v1, v2⟩ := c_valueIn (fu := fu) (s := rs r) (row := row) (n2 := n3) (o := d 7 (rs r)) (ov := ov) (A := A) (L := Lc) (by omega) (by omega) c1 c3 c4 c5 b2 (by omega) hn3 hn4 (fun y hy => ⟨(hov y hy).1, (hov y hy).2.2⟩)
        obtain ⟨v', u1, u2⟩ := m_valueOf (fu := fu) (s := rs r) (o := d 7 (rs r)) (ov := ov) (M := M) (L := Lm) (by omega) (by omega) c2 c3 c4 c6 b4 (by omega) (fun y hy => ⟨(hov y hy).2.1, (hov y hy).2.2⟩)
        have ev : v = v' := uL_inj (by rw [v2, u2])
        subst ev
        rw [a1, v1, mb3_s, u1, mb3_s]
        obtain ⟨A1, Lc1, M1, Lm1, z1, z2, z3, z4, z5, z6, z7, z8, z9⟩ := st_read1 (fu := fu) (c := c) (f := f) (v := v) (fX19_come_h90 fu (sI c) (sI f) x') (show r < R by omega) hR o1 hQ h2
        rw [mck_s (show r < 60 by omega) (by omega)] at z2
        rw [z1, mb2_s, z2]
        have hS1 : FrS A1 M1 S F d tu := FrS_f hS (fun a y u => z6 a y (by omega) (by omega) (by omega)) (fun a y u => z7 a y (by omega) (by omega) (by omega) (by omega))
        have hO1 : ChO A1 M1 X own := ChO_f hO (fun x hx => z6 _ _ (by omega) (by omega) (by omega)) (fun a y u => z7 a y (by omega) (by omega) (by omega) (by omega))
        obtain ⟨A2, Lc2, M2, Lm2, y1, y2, y3, y4, y5, y6, y7, y8, y9, y10, y11⟩ := ih (r + 1) x x' A1 M1 Lc1 Lm1 (by omega) (by omega) (by omega) hS1 hO1 z3 z4 z5 (fun y hy => by rw [z6 _ _ (by omega) (by omega) (by omega), z7 _ _ (by omega) (by omega) (by omega) (by omega)]; exact hov y hy)
        exact ⟨A2, Lc2, M2, Lm2, y1, y2, y3, y4, y5, y6, y7, fun a y u1 u2 u3 => by rw [y8 a y u1 u2 u3]; exact z6 a y u1 u2 u3, fun a y u1 u2 u3 u4 => by rw [y9 a y u1 u2 u3 u4]; exact z7 a y u1 u2 u3 u4, fun a y u1 u2 => by rw [y10 a y u1 u2]; exact z8 a y u1 u2, fun a y u1 u2 => by rw [y11 a y u1 u2]; exact z9 a y u1 u2⟩
      · rw [decide_eq_false e2, bI_f, if_pos (show (0 : Int32) = 0 from rfl), if_neg (show ¬ sI (d 6 (rs r)) = sI f by rw [sI_eq (by omega) (by omega)]; exact e2)]
        exact nx
    · rw [if_neg (show ¬ sI (own (rc r)) = sI c by rw [sI_eq (by omega) (by omega)]; exact e1), if_neg (show ¬ sI (own (rc r)) = sI c by rw [sI_eq (by omega) (by omega)]; exact e1)]
      exact nx
/-! a frame has come: the class's takeSignals against the reference's come -/
def CnR (A : mwM) (Lm : mwL) (F : Nat) (bd : Nat → Nat) : Prop := ∀ f, f < F → ∀ c, c < 6 → ∃ cn, cn ≤ bd c ∧ A (86 + c) f = sI cn ∧ Lm 786 (6 * f + c) = sL cn
/-- what both keep while frames come -/
def TkB (A M : mwM) (Lc Lm : mwL) (S F W R X t E : Nat) (d : Nat → Nat → Nat) (tu : Nat → Bool) (g : Nat → Nat → Nat) (own Sb bd : Nat → Nat) : Prop :=
  FrS A M S F d tu ∧ ChO A M X own ∧ RdR A M Lc Lm R S X (g 0) (g 1) (g 2) (g 3) ∧ (∀ x, x < X → QdR A M Lc Lm x) ∧ WtR A M Lm W S (g 4) (g 5) ∧ RTr A M W E ∧ RCd A M Sb ∧ (∀ f, f < F → d 12 f ≠ 0 → KnC A Sb (d 12 f)) ∧ CnR A Lm F bd ∧ A 292 1 = M 939 1 ∧ A 292 2 = M 939 2 ∧ A 3 16 = sI t ∧ M 732 83 = sI t ∧ t ≤ 20000
abbrev cmA (A A' : mwM) : Prop := ∀ a y, ¬ (86 ≤ a ∧ a ≤ 91) → a ≠ 96 → ¬ (137 ≤ a ∧ a ≤ 138) → ¬ (a = 139 ∧ y = 5) → ¬ (144 ≤ a ∧ a ≤ 147) → a ≠ 290 → ¬ (a = 292 ∧ (y = 1 ∨ y = 2)) → ¬ (293 ≤ a ∧ (((a - 293) % 36 = 0 ∧ y = 11) ∨ (a - 293) % 36 = 35)) → A' a y = A a y
abbrev cmM (M M' : mwM) : Prop := ∀ a y, ¬ (a = 854 ∧ (y = 0 ∨ y = 6 ∨ y = 7)) → a ≠ 858 → a ≠ 859 → ¬ (863 ≤ a ∧ a ≤ 867) → ¬ (902 ≤ a ∧ a ≤ 920) → a ≠ 773 → ¬ (a = 939 ∧ (y = 1 ∨ y = 2)) → a ≠ 752 → a ≠ 753 → M' a y = M a y
abbrev cmL (L L' : mwL) : Prop := ∀ a y, a ≠ 774 → a ≠ 778 → a ≠ 786 → ¬ (964 ≤ a ∧ (a - 964) % 53 = 21 ∧ y < 32) → L' a y = L a y
theorem KnC_f {A A' : mwM} {Sb : Nat → Nat} {key : Nat} (h : KnC A Sb key) (hk : key ≤ 16) (hA : ∀ a y, 101 ≤ a → a ≤ 136 → A' a y = A a y) : KnC A' Sb key := by
  obtain ⟨k1, k2, k3⟩ := h
  exact ⟨by rw [hA _ _ (by omega) (by omega)]; exact k1, fun i u => by rw [hA _ _ (by omega) (by omega)]; exact k2 i u, fun i u => by rw [hA _ _ (by omega) (by omega)]; exact k3 i u⟩
theorem FrS_lo {A M : mwM} {S F f : Nat} {d : Nat → Nat → Nat} {tu : Nat → Bool} (h : FrS A M S F d tu) (hf : f < F) : d 12 f ≤ 16 := by
  obtain ⟨⟨_, _, _, _, _, _, _, _, _, _, _, f12, _⟩, _⟩ := h.2.2.2.2.2.2.1 f hf
  exact f12
theorem WtR_f {A A' M M' : mwM} {Lm Lm' : mwL} {W S : Nat} {ws wc : Nat → Nat} (h : WtR A M Lm W S ws wc) (hA : ∀ a y, (a = 139 ∧ y = 2) ∨ a = 141 ∨ a = 142 ∨ a = 144 → A' a y = A a y) (hM : ∀ a y, (a = 732 ∧ y = 62) ∨ (775 ≤ a ∧ a ≤ 777) → M' a y = M a y) (hL : ∀ y, Lm' 778 y = Lm 778 y) : WtR A' M' Lm' W S ws wc := by
  obtain ⟨w1, w2, w3, w4⟩ := h
  refine ⟨by rw [hA _ _ (by omega)]; exact w1, by rw [hM _ _ (by omega)]; exact w2, w3, fun w hw => ?_⟩
  obtain ⟨a1, a2, a3, a4, a5, a6, a7, nt, a8, a9, a10⟩ := w4 w hw
  exact ⟨by rw [hA _ _ (by omega)]; exact a1, by rw [hM _ _ (by omega)]; exact a2, a3, by rw [hA _ _ (by omega)]; exact a4, by rw [hM _ _ (by omega)]; exact a5, a6, by rw [hM _ _ (by omega)]; exact a7, nt, a8, by rw [hA _ _ (by omega)]; exact a9, by rw [hL]; exact a10⟩
theorem RdR_f {A A' M M' : mwM} {Lc Lc' Lm Lm' : mwL} {R S X : Nat} {rs rc rd re : Nat → Nat} (h : RdR A M Lc Lm R S X rs rc rd re) (hA : ∀ a y, (a = 3 ∧ y = 15) ∨ (286 ≤ a ∧ a ≤ 290) → A' a y = A a y) (hM : ∀ a y, (a = 732 ∧ y = 55) ∨ (769 ≤ a ∧ a ≤ 773) → M' a y = M a y) (hC : ∀ y, Lc' 291 y = Lc 291 y) (hL : ∀ y, Lm' 774 y = Lm 774 y) : RdR A' M' Lc' Lm' R S X rs rc rd re := by
  obtain ⟨w1, w2, w3, w4⟩ := h
  refine ⟨by rw [hA _ _ (by omega)]; exact w1, by rw [hM _ _ (by omega)]; exact w2, w3, fun r hr => ?_⟩
  obtain ⟨a1, a2, a3, a4, a5, a6, a7, a8, a9, a10, a11, a12, hh, a13, a14, a15⟩ := w4 r hr
  exact ⟨by rw [hA _ _ (by omega)]; exact a1, by rw [hM _ _ (by omega)]; exact a2, a3, by rw [hA _ _ (by omega)]; exact a4, by rw [hM _ _ (by omega)]; exact a5, a6, by rw [hA _ _ (by omega)]; exact a7, by rw [hM _ _ (by omega)]; exact a8, a9, by rw [hA _ _ (by omega)]; exact a10, by rw [hM _ _ (by omega)]; exact a11, a12, hh, by rw [hA _ _ (by omega)]; exact a13, by rw [hM _ _ (by omega)]; exact a14, fun w => by rw [hC, hL]; exact a15 w⟩
theorem QdR_f {A A' M M' : mwM} {Lc Lc' Lm Lm' : mwL} {x : Nat} (h : QdR A M Lc Lm x) (hA : ∀ a y, (a = 293 + 36 * x ∧ y = 11) ∨ a = 293 + 36 * x + 35 → A' a y = A a y) (hM : ∀ a y, a = 752 ∨ a = 753 → M' a y = M a y) (hC : ∀ y, Lc' (293 + 36 * x + 34) y = Lc (293 + 36 * x + 34) y) (hL : ∀ y, Lm' (964 + 53 * x + 21) y = Lm (964 + 53 * x + 21) y) : QdR A' M' Lc' Lm' x := by
  obtain ⟨qn, q1, q2, q3, q4, q5⟩ := h
  exact ⟨qn, q1, by rw [hA _ _ (by omega)]; exact q2, by rw [hM _ _ (by omega)]; exact q3, fun i hi => by rw [hA _ _ (by omega), hM _ _ (by omega)]; exact q4 i hi, by rw [funext hC, funext hL]; exact q5⟩
theorem st_come {fu c f row n3 S F W R X t E : Nat} {d : Nat → Nat → Nat} {tu : Nat → Bool} {g : Nat → Nat → Nat} {own Sb bd ov : Nat → Nat} {A M : mwM} {Lc Lm : mwL} (hfu : 300 ≤ fu) (hc : c < 6) (hf : f < F) (hrow : row < 61) (hn3 : 8 ≤ n3) (hn4 : n3 < 1000) (hE : E < 800000000) (hbd : bd c < 1000000000) (hB : TkB A M Lc Lm S F W R X t E d tu g own Sb bd) (hov : ∀ y, y < 8 → A row y = sI (ov y) ∧ M 926 y = sI (ov y) ∧ ov y < 256) : ∃ A' Lc' M' Lm' E', DX1_takeSignals fu (sI c) (sI f) row n3 A Lc = some (A', Lc') ∧ DX19_come fu (sI c) (sI f) M Lm = some (M', Lm') ∧ TkB A' M' Lc' Lm' S F W R X t E' d tu g own Sb (fun x => if x = c then bd x + 64 else bd x) ∧ E ≤ E' ∧ E' ≤ E + 30 ∧ cmA A A' ∧ cmM M M' ∧ tkLc Lc Lc' ∧ cmL Lm Lm' := by
  obtain ⟨hS, hO, hR, hQ, hW, hT, hC, hK, hN, h1, h2, h16, h83, ht⟩ := hB
  have hF40 := hS.2.2.2.2.2.1
  have hS40 := hS.2.2.1
  obtain ⟨⟨a1, a2, a3, a4, a5, a6, a7, a8, a9, a10, a11, a12, a13, a14, a15, a16, a17⟩, b1, b2, b3⟩ := hS.2.2.2.2.2.2.1 f hf
  have hpos := posf_lt (ev := d 11) hf
  have bdle : ∀ x, bd x ≤ (fun x => if x = c then bd x + 64 else bd x) x := fun x => by dsimp only; split <;> omega
  -- behind the code
  have go : ∀ (A1 M1 : mwM) (Lm1 : mwL), RCd A1 M1 Sb → CnR A1 Lm1 F (fun x => if x = c then bd x + 64 else bd x) → (∀ a y, a ≠ 96 → ¬ (137 ≤ a ∧ a ≤ 138) → ¬ (86 ≤ a ∧ a ≤ 91) → A1 a y = A a y) → (∀ a y, ¬ (a = 854 ∧ (y = 0 ∨ y = 6 ∨ y = 7)) → a ≠ 858 → a ≠ 859 → ¬ (863 ≤ a ∧ a ≤ 867) → M1 a y = M a y) → (∀ a y, a ≠ 786 → Lm1 a y = Lm a y) → ∃ A' Lc' M' Lm' E', fX1_takeSignals_b47 fu (sI c) (sI f) row n3 A1 Lc = some (A', Lc') ∧ fX19_come_h22 fu (sI c) (sI f) fu (0, M1, Lm1) = some (M', Lm') ∧ TkB A' M' Lc' Lm' S F W R X t E' d tu g own Sb (fun x => if x = c then bd x + 64 else bd x) ∧ E ≤ E' ∧ E' ≤ E + 30 ∧ cmA A A' ∧ cmM M M' ∧ tkLc Lc Lc' ∧ cmL Lm Lm' := by
    intro A1 M1 Lm1 kC kN fA fM fL
    have kS : FrS A1 M1 S F d tu := FrS_f hS (fun a y u => fA a y (by omega) (by omega) (by omega)) (fun a y u => fM a y (by omega) (by omega) (by omega) (by omega))
    have kO : ChO A1 M1 X own := ChO_f hO (fun x hx => fA _ _ (by omega) (by omega) (by omega)) (fun a y u => fM a y (by omega) (by omega) (by omega) (by omega))
    have kR : RdR A1 M1 Lc Lm1 R S X (g 0) (g 1) (g 2) (g 3) := RdR_f hR (fun a y u => fA a y (by omega) (by omega) (by omega)) (fun a y u => fM a y (by omega) (by omega) (by omega) (by omega)) (fun _ => rfl) (fun y => fL _ _ (by omega))
    have kQ : ∀ x, x < X → QdR A1 M1 Lc Lm1 x := fun x hx => QdR_f (hQ x hx) (fun a y u => fA a y (by omega) (by omega) (by omega)) (fun a y u => fM a y (by omega) (by omega) (by omega) (by omega)) (fun _ => rfl) (fun y => fL _ _ (by omega))
    have kW : WtR A1 M1 Lm1 W S (g 4) (g 5) := WtR_f hW (fun a y u => fA a y (by omega) (by omega) (by omega)) (fun a y u => fM a y (by omega) (by omega) (by omega) (by omega)) (fun y => fL _ _ (by omega))
    have kT : RTr A1 M1 W E := RTr_fr hT (fun a y u1 u2 => fA a y (by omega) (by omega) (by omega)) (fun a y u1 u2 u3 => fM a y (by omega) (by omega) (by omega) (by omega))
    obtain ⟨A2, M2, Lm2, E2, z1, z2, z3, z4, z5, z6, z7, z8, z9⟩ := st_watch (N := 0) (fu := fu) (c := c) (f := f) (row := row) (n3 := n3) (S := S) (fs := d 6) (Lc := Lc) (t := t) (by omega) hc (by omega) hS40 (fun s hs => by
      obtain ⟨k1, _, _, _, ⟨b1, b2, b3, _⟩, _⟩ := kS.2.2.2.2.2.2.2.1 s hs
      exact ⟨b1, b3, by omega⟩) kW kT hE ht (by rw [fA _ _ (by omega) (by omega) (by omega)]; exact h16) (by rw [fM _ _ (by omega) (by omega) (by omega) (by omega)]; exact h83)
    have lS : FrS A2 M2 S F d tu := FrS_f kS (fun a y u => z7 a y (by omega) (by omega)) (fun a y u => z8 a y (by omega))
    have lO : ChO A2 M2 X own := ChO_f kO (fun x hx => z7 _ _ (by omega) (by omega)) (fun a y u => z8 a y (by omega))
    have lR : RdR A2 M2 Lc Lm2 R S X (g 0) (g 1) (g 2) (g 3) := RdR_f kR (fun a y u => z7 a y (by omega) (by omega)) (fun a y u => z8 a y (by omega)) (fun _ => rfl) (fun y => z9 _ _ (by omega))
    have lQ : ∀ x, x < X → QdR A2 M2 Lc Lm2 x := fun x hx => QdR_f (kQ x hx) (fun a y u => z7 a y (by omega) (by omega)) (fun a y u => z8 a y (by omega)) (fun _ => rfl) (fun y => z9 _ _ (by omega))
    have l2 : A2 292 2 = M2 939 2 := by rw [z7 _ _ (by omega) (by omega), z8 _ _ (by omega), fA _ _ (by omega) (by omega) (by omega), fM _ _ (by omega) (by omega) (by omega) (by omega)]; exact h2
    obtain ⟨A3, Lc3, M3, Lm3, y1, y2, y3, y4, y5, y6, y7, y8, y9, y10, y11⟩ := st_reads (fu := fu) (c := c) (f := f) (row := row) (n3 := n3) (ov := ov) (by omega) hc (by omega) hrow hn3 hn4 R 0 fu fu A2 M2 Lc Lm2 (by omega) (by have := hR.2.2.1; omega) (by have := hR.2.2.1; omega) lS lO lR lQ l2 (fun y hy => by rw [z7 _ _ (by omega) (by omega), z8 _ _ (by omega), fA _ _ (by omega) (by omega) (by omega), fM _ _ (by omega) (by omega) (by omega) (by omega)]; exact hov y hy)
    have y1' : fX1_takeSignals_h117 fu (sI c) (sI f) row n3 fu (0, A2, Lc) = some (A3, Lc3) := y1
    have y2' : fX19_come_h90 fu (sI c) (sI f) fu (0, M2, Lm2) = some (M3, Lm3) := y2
    have gA : ∀ a y, ¬ (86 ≤ a ∧ a ≤ 91) → a ≠ 96 → ¬ (137 ≤ a ∧ a ≤ 138) → ¬ (a = 139 ∧ y = 5) → ¬ (144 ≤ a ∧ a ≤ 147) → a ≠ 290 → ¬ (a = 292 ∧ y = 2) → ¬ (293 ≤ a ∧ (((a - 293) % 36 = 0 ∧ y = 11) ∨ (a - 293) % 36 = 35)) → A3 a y = A a y := fun a y u1 u2 u3 u4 u5 u6 u7 u8 => by rw [y8 a y u6 u7 u8, z7 a y u4 u5]; exact fA a y u2 u3 u1
    have gM : ∀ a y, ¬ (a = 854 ∧ (y = 0 ∨ y = 6 ∨ y = 7)) → a ≠ 858 → a ≠ 859 → ¬ (863 ≤ a ∧ a ≤ 867) → ¬ (902 ≤ a ∧ a ≤ 920) → a ≠ 773 → ¬ (a = 939 ∧ y = 2) → a ≠ 752 → a ≠ 753 → M3 a y = M a y := fun a y u1 u2 u3 u4 u5 u6 u7 u8 u9 => by rw [y9 a y u6 u7 u8 u9, z8 a y u5]; exact fM a y u1 u2 u3 u4
    refine ⟨A3, Lc3, M3, Lm3, E2, by rw [z1, y1'], by rw [z2, y2'], ⟨y3, y4, y5, y6, WtR_f z3 (fun a y u => y8 a y (by omega) (by omega) (by omega)) (fun a y u => y9 a y (by omega) (by omega) (by omega) (by omega)) (fun y => y11 _ _ (by omega) (by omega)), RTr_fr z4 (fun a y u1 u2 => y8 a y (by omega) (by omega) (by omega)) (fun a y u1 u2 u3 => y9 a y (by omega) (by omega) (by omega) (by omega)), RCd_fr kC (fun a y u1 u2 => by rw [y8 a y (by omega) (by omega) (by omega), z7 a y (by omega) (by omega)]) (fun a y u => by rw [y9 a y (by omega) (by omega) (by omega) (by omega), z8 a y (by omega)]), fun e he hz => KnC_f (hK e he hz) (FrS_lo hS he) (fun a y u1 u2 => gA a y (by omega) (by omega) (by omega) (by omega) (by omega) (by omega) (by omega) (by omega)), fun e he x hx => ?_, ?_, y7, ?_, ?_, ht⟩, z5, z6, fun a y u1 u2 u3 u4 u5 u6 u7 u8 => gA a y u1 u2 u3 u4 u5 u6 (by omega) u8, fun a y u1 u2 u3 u4 u5 u6 u7 u8 u9 => gM a y u1 u2 u3 u4 u5 u6 (by omega) u8 u9, y10, fun a y u1 u2 u3 u4 => by rw [y11 a y u1 u4, z9 a y u2]; exact fL a y u3⟩
    · obtain ⟨cn, n1, n2, n3'⟩ := kN e he x hx
      exact ⟨cn, n1, by rw [y8 _ _ (by omega) (by omega) (by omega), z7 _ _ (by omega) (by omega)]; exact n2, by rw [y11 _ _ (by omega) (by omega), z9 _ _ (by omega)]; exact n3'⟩
    · rw [gA _ _ (by omega) (by omega) (by omega) (by omega) (by omega) (by omega) (by omega) (by omega), gM _ _ (by omega) (by omega) (by omega) (by omega) (by omega) (by omega) (by omega) (by omega) (by omega)]; exact h1
    · rw [gA _ _ (by omega) (by omega) (by omega) (by omega) (by omega) (by omega) (by omega) (by omega)]; exact h16
    · rw [gM _ _ (by omega) (by omega) (by omega) (by omega) (by omega) (by omega) (by omega) (by omega) (by omega)]; exact h83
  unfold DX1_takeSignals DX19_come
  rw [if_pos (by rw [sI_lle (by decide) (by omega)]; omega), mck_s (show f < 40 by omega) (by omega), sI_nn (by omega), a3]
  by_cases z : d 12 f = 0
  · have r0 : DX19_right fu (sI c) (sI f) M Lm = some (1, M, Lm) := by
      unfold DX19_right
      rw [mck_s (show f < 40 by omega) (by omega), sI_nn (by omega), a8, if_pos (by rw [z]; rfl)]
    rw [if_pos (by rw [z]; rfl), r0, mb3_s, if_neg (show ¬ (1 : Int32) = 0 by decide)]
    exact go A M Lm hC (fun e he x hx => by
      obtain ⟨cn, n1, n2, n3'⟩ := hN e he x hx
      exact ⟨cn, Nat.le_trans n1 (bdle x), n2, n3'⟩) (fun _ _ _ _ _ => rfl) (fun _ _ _ _ _ _ => rfl) (fun _ _ _ => rfl)
  · obtain ⟨cn, n1, n2, n3'⟩ := hN f hf c hc
    obtain ⟨r, A1, M1, Lm1, y1, y2, y3, ⟨cn', y4, y5, y6, y7⟩, y8, y9, y10⟩ := st_accept (fu := fu) (c := c) (f := f) (P := posf (d 11) F f) (key := d 12 f) (row := row) (n3 := n3) (cn := cn) (Lc := Lc) (Lm := Lm) (oc := ov) hfu (by omega) hc (by omega) (by omega) b1 b3 a3 a8 (by omega) a12 hC (hK f hf z) (by omega) (by omega) hn3 hn4 hov n2 n3'
    have kN : CnR A1 Lm1 F (fun x => if x = c then bd x + 64 else bd x) := fun e he x hx => by
      by_cases ex : e = f ∧ x = c
      · rw [ex.1, ex.2]
        refine ⟨cn', ?_, y6, y7⟩
        dsimp only
        rw [if_pos rfl]
        omega
      · obtain ⟨cm, m1, m2, m3⟩ := hN e he x hx
        exact ⟨cm, Nat.le_trans m1 (bdle x), by rw [y8 _ _ (by omega) (by omega) (by omega)]; exact m2, by rw [y10 _ _ (by omega)]; exact m3⟩
    have fA : ∀ a y, a ≠ 96 → ¬ (137 ≤ a ∧ a ≤ 138) → ¬ (86 ≤ a ∧ a ≤ 91) → A1 a y = A a y := fun a y u1 u2 u3 => y8 a y u1 u2 (by omega)
    rw [if_neg (by rw [show (0 : Int32) = sI 0 from rfl, sI_eq (by omega) (by omega)]; exact z), y1, mb3_s, y2, mb3_s]
    cases hr : r with
    | true =>
      rw [bI_t, if_neg (show ¬ (1 : Int32) = 0 by decide), if_neg (show ¬ (1 : Int32) = 0 by decide)]
      exact go A1 M1 Lm1 y3 kN fA y9 (fun a y u => y10 a y (by omega))
    | false =>
      have e1 : (1 : Int32).toNatClampNeg = 1 := rfl
      rw [bI_f, if_pos (show (0 : Int32) = 0 from rfl), if_pos (show (0 : Int32) = 0 from rfl), mlet_e, mlet_e, e1]
      have tA : ∀ a y, a ≠ 96 → ¬ (137 ≤ a ∧ a ≤ 138) → ¬ (86 ≤ a ∧ a ≤ 91) → ¬ (a = 292 ∧ y = 1) → mset A1 292 1 (A1 292 1 + 1) a y = A a y := fun a y u1 u2 u3 u4 => by rw [mset_n u4]; exact fA a y u1 u2 u3
      have tM : ∀ a y, ¬ (a = 854 ∧ (y = 0 ∨ y = 6 ∨ y = 7)) → a ≠ 858 → a ≠ 859 → ¬ (863 ≤ a ∧ a ≤ 867) → ¬ (a = 939 ∧ y = 1) → mset M1 939 1 (M1 939 1 + 1) a y = M a y := fun a y u1 u2 u3 u4 u5 => by rw [mset_n u5]; exact y9 a y u1 u2 u3 u4
      refine ⟨_, Lc, _, Lm1, E, rfl, rfl, ⟨FrS_f hS (fun a y u => tA a y (by omega) (by omega) (by omega) (by omega)) (fun a y u => tM a y (by omega) (by omega) (by omega) (by omega) (by omega)), ChO_f hO (fun x hx => tA _ _ (by omega) (by omega) (by omega) (by omega)) (fun a y u => tM a y (by omega) (by omega) (by omega) (by omega) (by omega)), RdR_f hR (fun a y u => tA a y (by omega) (by omega) (by omega) (by omega)) (fun a y u => tM a y (by omega) (by omega) (by omega) (by omega) (by omega)) (fun _ => rfl) (fun y => y10 _ _ (by omega)), fun x hx => QdR_f (hQ x hx) (fun a y u => tA a y (by omega) (by omega) (by omega) (by omega)) (fun a y u => tM a y (by omega) (by omega) (by omega) (by omega) (by omega)) (fun _ => rfl) (fun y => y10 _ _ (by omega)), WtR_f hW (fun a y u => tA a y (by omega) (by omega) (by omega) (by omega)) (fun a y u => tM a y (by omega) (by omega) (by omega) (by omega) (by omega)) (fun y => y10 _ _ (by omega)), RTr_fr hT (fun a y u1 u2 => tA a y (by omega) (by omega) (by omega) (by omega)) (fun a y u1 u2 u3 => tM a y (by omega) (by omega) (by omega) (by omega) (by omega)), RCd_fr y3 (fun a y u1 u2 => by rw [mset_n (by omega)]) (fun a y u => by rw [mset_n (by omega)]), fun e he hz => KnC_f (hK e he hz) (FrS_lo hS he) (fun a y u1 u2 => tA a y (by omega) (by omega) (by omega) (by omega)), fun e he x hx => ?_, ?_, ?_, ?_, ?_, ht⟩, by omega, by omega, fun a y u1 u2 u3 u4 u5 u6 u7 u8 => tA a y u2 u3 u1 (by omega), fun a y u1 u2 u3 u4 u5 u6 u7 u8 u9 => tM a y u1 u2 u3 u4 (by omega), fun _ _ _ _ => rfl, fun a y u1 u2 u3 u4 => y10 a y (by omega)⟩
      · obtain ⟨cm, m1, m2, m3⟩ := kN e he x hx
        exact ⟨cm, m1, by rw [mset_n (by omega)]; exact m2, m3⟩
      · rw [mset_s, mset_s, fA _ _ (by omega) (by omega) (by omega), y9 _ _ (by omega) (by omega) (by omega) (by omega), h1]
      · rw [tA _ _ (by omega) (by omega) (by omega) (by omega), tM _ _ (by omega) (by omega) (by omega) (by omega) (by omega)]; exact h2
      · rw [tA _ _ (by omega) (by omega) (by omega) (by omega)]; exact h16
      · rw [tM _ _ (by omega) (by omega) (by omega) (by omega) (by omega)]; exact h83
/-! what a node has taken, as the reference finds it -/
theorem s7_cnt {tn : Nat → Nat} : ∀ T, (∀ k, k < T → tn k < 7) → s7 (fun n => cnt (fun k => decide (tn k = n)) T) = T := by
  intro T
  induction T with
  | zero => intro _; rfl
  | succ T ih =>
    intro h
    have h1 := ih (fun k hk => h k (by omega))
    have h2 := h T (by omega)
    unfold s7 at h1 ⊢
    dsimp only at h1 ⊢
    rw [cnt_sc, cnt_sc, cnt_sc, cnt_sc, cnt_sc, cnt_sc, cnt_sc]
    have : tn T = 0 ∨ tn T = 1 ∨ tn T = 2 ∨ tn T = 3 ∨ tn T = 4 ∨ tn T = 5 ∨ tn T = 6 := by omega
    rcases this with e | e | e | e | e | e | e <;> rw [e] <;> simp <;> omega
theorem tn_pre {tn tc tc' : Nat → Nat} (h7 : ∀ k, k < s7 tc' → tn k < 7) (hc : ∀ n, n < 7 → cnt (fun k => decide (tn k = n)) (s7 tc') = tc' n) (hle : s7 tc ≤ s7 tc') (hn : ∀ n, n < 7 → (tc' n = tc n + 1 ∧ ∃ k, s7 tc ≤ k ∧ k < s7 tc' ∧ tn k = n) ∨ tc' n = tc n) : ∀ n, n < 7 → ∀ k, s7 tc ≤ k → k < s7 tc' → tn k = n → tc' n = tc n + 1 → cnt (fun k => decide (tn k = n)) k = tc n := by
  have hle1 : ∀ n, n < 7 → cnt (fun k => decide (tn k = n)) (s7 tc) ≤ tc n := fun n hn7 => by
    have hm := cnt_mo (P := fun k => decide (tn k = n)) hle
    rw [hc n hn7] at hm
    rcases hn n hn7 with ⟨e, k, k1, k2, k3⟩ | e
    · have h1 := cnt_mo (P := fun k => decide (tn k = n)) k1
      have h2 := cnt_in (P := fun k => decide (tn k = n)) k2 (decide_eq_true k3)
      rw [hc n hn7] at h2
      unfold lxf at h2
      omega
    · omega
  have hsum := s7_cnt (tn := tn) (s7 tc) (fun k hk => h7 k (by omega))
  have g0 := hle1 0 (by omega)
  have g1 := hle1 1 (by omega)
  have g2 := hle1 2 (by omega)
  have g3 := hle1 3 (by omega)
  have g4 := hle1 4 (by omega)
  have g5 := hle1 5 (by omega)
  have g6 := hle1 6 (by omega)
  have heq : ∀ n, n < 7 → cnt (fun k => decide (tn k = n)) (s7 tc) = tc n := fun n hn7 => by
    generalize hT : s7 tc = T at *
    unfold s7 at hsum hT
    dsimp only at hsum
    have : n = 0 ∨ n = 1 ∨ n = 2 ∨ n = 3 ∨ n = 4 ∨ n = 5 ∨ n = 6 := by omega
    rcases this with e | e | e | e | e | e | e <;> subst e <;> omega
  intro n hn7 k k1 k2 k3 e
  have h1 := cnt_mo (P := fun k => decide (tn k = n)) k1
  have h2 := cnt_in (P := fun k => decide (tn k = n)) k2 (decide_eq_true k3)
  rw [hc n hn7] at h2
  rw [heq n hn7] at h1
  unfold lxf at h2
  omega
theorem m_took {fu n i T k0 : Nat} {tn : Nat → Nat} {M : mwM} {L : mwL} (hfu : 5000 ≤ fu) (hn : n < 7) (h22 : M 821 22 = sI T) (hT : T ≤ 3600) (h839 : ∀ k, k < T → M 839 k = sI (tn k) ∧ tn k < 7) (hk : k0 < T) (hk1 : tn k0 = n) (hk2 : cnt (fun k => decide (tn k = n)) k0 = i) : DX12_took fu (sI n) (sI i) M L = some (sI k0, M, L) := by
  have hi : i ≤ k0 := by rw [← hk2]; exact cnt_le _ _
  unfold DX12_took
  have key : ∀ (r v q : Nat), v + r = k0 → r < q → fX12_took_h5 fu (sI n) (sI i) q (sI (i - cnt (fun k => decide (tn k = n)) v), sI v, M, L) = some (sI k0, M, L) := by
    intro r
    induction r with
    | zero =>
      intro v q hv hq
      obtain ⟨q', rfl⟩ : ∃ y, q = y + 1 := ⟨q - 1, by omega⟩
      have ev : v = k0 := by omega
      subst ev
      show fX12_took_i5 fu (sI n) (sI i) (fX12_took_h5 fu (sI n) (sI i) q') (sI (i - cnt (fun k => decide (tn k = n)) v)) (sI v) M L = _
      unfold fX12_took_i5
      rw [h22, if_neg (by rw [sI_le (by omega) (by omega)]; omega), if_neg (by rw [sI_ltl (by omega) (by decide)]; omega), mck_s (by omega) (by omega), sI_nn (by omega), (h839 v hk).1, hk1, if_pos rfl, hk2, Nat.sub_self, if_pos (show sI 0 = 0 from rfl)]
    | succ r ih =>
      intro v q hv hq
      obtain ⟨q', rfl⟩ : ∃ y, q = y + 1 := ⟨q - 1, by omega⟩
      obtain ⟨m1, m2⟩ := h839 v (by omega)
      have nx := ih (v + 1) q' (by omega) (by omega)
      have un : fX12_took_h5 fu (sI n) (sI i) (q' + 1) (sI (i - cnt (fun k => decide (tn k = n)) v), sI v, M, L) = fX12_took_i5 fu (sI n) (sI i) (fX12_took_h5 fu (sI n) (sI i) q') (sI (i - cnt (fun k => decide (tn k = n)) v)) (sI v) M L := rfl
      rw [un]
      unfold fX12_took_i5 fX12_took_b39
      rw [h22, if_neg (by rw [sI_le (by omega) (by omega)]; omega), if_neg (by rw [sI_ltl (by omega) (by decide)]; omega), mck_s (by omega) (by omega), sI_nn (by omega), m1]
      rw [cnt_sc] at nx
      by_cases e : tn v = n
      · have hlt := cnt_in (P := fun k => decide (tn k = n)) (show v < k0 by omega) (decide_eq_true e)
        unfold lxf at hlt
        rw [hk2] at hlt
        rw [if_pos (by rw [e]), if_neg (by rw [show (0 : Int32) = sI 0 from rfl, sI_eq (by omega) (by omega)]; omega), mlet_e, mlet_e, sI_1]
        rw [if_pos (decide_eq_true e)] at nx
        have em : sI (i - cnt (fun k => decide (tn k = n)) v) + (-1) = sI (i - (cnt (fun k => decide (tn k = n)) v + 1)) := by
          obtain ⟨x, hx⟩ : ∃ x, i - cnt (fun k => decide (tn k = n)) v = x + 1 := ⟨i - cnt (fun k => decide (tn k = n)) v - 1, by omega⟩
          rw [hx, sI_pm, show i - (cnt (fun k => decide (tn k = n)) v + 1) = x from by omega]
        rw [em]
        exact nx
      · rw [if_neg (by rw [sI_eq (by omega) (by omega)]; exact e), mlet_e, sI_1]
        rw [if_neg (by rw [decide_eq_false e]; decide), Nat.add_zero] at nx
        exact nx
  have st := key k0 0 fu (by omega) (by omega)
  have e0 : cnt (fun k => decide (tn k = n)) 0 = 0 := rfl
  rw [e0, Nat.sub_zero] at st
  exact st
theorem m_noNode12 {fu n N : Nat} {M : mwM} {L : mwL} (h1 : M 821 1 = sI N) (hN : N ≤ 7) (hn : n < N) : DX12_noNode fu (sI n) M L = some (0, M, L) := by
  unfold DX12_noNode fX12_noNode_b17 mzz
  rw [h1, if_neg (by rw [sI_ltl (by omega) (by decide)]; omega), if_pos (by rw [sI_lt (by omega) (by omega)]; exact hn), if_pos (Or.inl rfl)]
/-- a frame that a node has taken -/
theorem m_taken3 {fu n N i T k0 id kd co : Nat} {tn : Nat → Nat} {e f r : Nat} {M : mwM} {L : mwL} (hfu : 5000 ≤ fu) (h1 : M 821 1 = sI N) (hN : N ≤ 7) (hn : n < N) (h22 : M 821 22 = sI T) (hT : T ≤ 3600) (h839 : ∀ k, k < T → M 839 k = sI (tn k) ∧ tn k < 7) (hk : k0 < T) (hk1 : tn k0 = n) (hk2 : cnt (fun k => decide (tn k = n)) k0 = i) (h840 : M 840 k0 = sI id) (h841 : M 841 k0 = sI (kdE e f r)) (h842 : M 842 k0 = sI co) (he : e < 2) (hf : f < 2) (hr : r < 2) (hco : co < 16) : DX12_taken fu (sI n) (sI i) 0 M L = some (sI id, mset M 821 0 0, L) ∧ DX12_taken fu (sI n) (sI i) 1 M L = some (sI (kdE e f r), mset M 821 0 0, L) ∧ DX12_taken fu (sI n) (sI i) 3 M L = some (sI (ocE f r co), mset M 821 0 0, L) ∧ ∀ j, j < 8 → j < ocE f r co → ∀ x, M 844 (64 * k0 + j) = bt8 x → x < 256 → DX12_takenOctet fu (sI n) (sI i) (sI j) M L = some (sI x, mset M 821 0 0, L) := by
  have hi : i ≤ k0 := by rw [← hk2]; exact cnt_le _ _
  have tk : ∀ B : mwM, (∀ a y, ¬ (a = 821 ∧ y = 0) → B a y = M a y) → DX12_took fu (sI n) (sI i) B L = some (sI k0, B, L) := fun B hB => m_took hfu (by omega) (by rw [hB _ _ (by omega)]; exact h22) hT (fun k hk => by rw [hB _ _ (by omega)]; exact h839 k hk) hk hk1 hk2
  have t0 : ∀ a y, ¬ (a = 821 ∧ y = 0) → mset M 821 0 0 a y = M a y := fun a y w => mset_n w
  have ii : mset (mset M 821 0 0) 821 0 0 = mset M 821 0 0 := mset_ii
  have ni : ¬ sI i = (-1 : Int32) := fun w => sI_m1n (show i < 2000000000 by omega) w.symm
  have nk : ¬ sI k0 = (-1 : Int32) := fun w => sI_m1n (show k0 < 2000000000 by omega) w.symm
  have c840 : mset M 821 0 0 840 k0 = sI id := by rw [t0 _ _ (by omega)]; exact h840
  have c841 : mset M 821 0 0 841 k0 = sI (kdE e f r) := by rw [t0 _ _ (by omega)]; exact h841
  have c842 : mset M 821 0 0 842 k0 = sI co := by rw [t0 _ _ (by omega)]; exact h842
  refine ⟨?_, ?_, ?_, fun j hj hj2 x hx hx2 => ?_⟩
  · unfold DX12_taken fX12_taken_b14 fX12_taken_b81 fX12_taken_b114
    rw [m_noNode12 h1 hN hn, mb3_s, if_pos (show (0 : Int32) = 0 from rfl), mlet_e, mset_s, if_pos (show (0 : Int32) ≤ 0 by decide), if_neg ni, tk _ t0, mb3_s, if_neg nk, if_neg (show ¬ (0 : Int32) < 0 by decide), if_pos (show (0 : Int32) ≤ 4 by decide), mlet_e, mset_s, if_pos (show (0 : Int32) ≤ 0 by decide), if_pos (show (0 : Int32) = 0 from rfl), mck_s (by omega) (by omega), sI_nn (by omega), ii, c840]
  · unfold DX12_taken fX12_taken_b14 fX12_taken_b81 fX12_taken_b114 fX12_taken_b200
    rw [m_noNode12 h1 hN hn, mb3_s, if_pos (show (0 : Int32) = 0 from rfl), mlet_e, mset_s, if_pos (show (0 : Int32) ≤ 0 by decide), if_neg ni, tk _ t0, mb3_s, if_neg nk, if_neg (show ¬ (1 : Int32) < 0 by decide), if_pos (show (1 : Int32) ≤ 4 by decide), mlet_e, mset_s, if_pos (show (0 : Int32) ≤ 0 by decide), if_neg (show ¬ (1 : Int32) = 0 by decide), if_pos (show (1 : Int32) = 1 from rfl), mck_s (by omega) (by omega), sI_nn (by omega), ii, c841]
  · unfold DX12_taken fX12_taken_b14 fX12_taken_b81 fX12_taken_b114 fX12_taken_b200
    rw [m_noNode12 h1 hN hn, mb3_s, if_pos (show (0 : Int32) = 0 from rfl), mlet_e, mset_s, if_pos (show (0 : Int32) ≤ 0 by decide), if_neg ni, tk _ t0, mb3_s, if_neg nk, if_neg (show ¬ (3 : Int32) < 0 by decide), if_pos (show (3 : Int32) ≤ 4 by decide), mlet_e, mset_s, if_pos (show (0 : Int32) ≤ 0 by decide), if_neg (show ¬ (3 : Int32) = 0 by decide), if_neg (show ¬ (3 : Int32) = 1 by decide), if_neg (show ¬ (3 : Int32) = 2 by decide), if_pos (show (3 : Int32) = 3 from rfl), mck_s (by omega) (by omega), mck_s (by omega) (by omega), sI_nn (by omega), ii, c841, c842, m_octetsOf he hf hr hco, mb3_s]
  · unfold DX12_takenOctet fX12_takenOctet_b18 fX12_takenOctet_b61 fX12_takenOctet_b91
    have ho : ocE f r co < 100 := by
      have : ∀ f, f < 2 → ∀ r, r < 2 → ∀ c, c < 16 → ocE f r c < 100 := by decide
      exact this f hf r hr co hco
    have b8 : ∀ x, x < 256 → bt8 x &&& 255 = sI x := by decide +kernel
    rw [m_noNode12 h1 hN hn, mb3_s, if_pos (show (0 : Int32) = 0 from rfl), tk M (fun _ _ _ => rfl), mb3_s, if_neg nk, if_pos (show (0 : Int32) ≤ sI j by rw [sI_lle (by decide) (by omega)]; omega), mck_s (by omega) (by omega), mck_s (by omega) (by omega), sI_nn (by omega), h841, h842, m_octetsOf he hf hr hco, mb3_s, if_pos (show sI j < sI (ocE f r co) by rw [sI_lt (by omega) (by omega)]; exact hj2), mlet_e, mset_s, if_pos (show (0 : Int32) ≤ 0 by decide), sI_lml, sI_add, mck_s (by omega) (by omega), sI_nn (by omega), t0 _ _ (by omega), hx, b8 x hx2]
/-! which frame has come -/
theorem c_frameOf {fu id S F : Nat} {d : Nat → Nat → Nat} {tu : Nat → Bool} {A M : mwM} {L : mwL} (hS : FrS A M S F d tu) (hid : id < 2048) : (∃ f, f < F ∧ id = 64 + 8 * posf (d 11) F f ∧ DX6_frameOf fu (sI id) A L = some (sI f, A, L)) ∨ ((∀ f, f < F → id ≠ 64 + 8 * posf (d 11) F f) ∧ DX6_frameOf fu (sI id) A L = some (-1, A, L)) := by
  have hF40 := hS.2.2.2.2.2.1
  unfold DX6_frameOf fX6_frameOf_b29
  rw [mlet_e]
  by_cases c1 : id < 64
  · right
    refine ⟨fun f hf => by omega, ?_⟩
    rw [if_pos (by rw [sI_ltl (by omega) (by decide)]; exact c1)]
  · rw [if_neg (by rw [sI_ltl (by omega) (by decide)]; exact c1)]
    have em : sI id - sI id / 8 * 8 = sI (id % 8) := sI_mod (b := 8) (by omega) (by omega)
    have es : sI id - 64 = sI (id - 64) := sI_sub (b := 64) (by omega)
    have ed : sI (id - 64) / 8 = sI ((id - 64) / 8) := sI_div (b := 8) (by omega) (by omega)
    rw [em, es, ed]
    by_cases c2 : id % 8 = 0
    · rw [if_pos (by rw [c2]; rfl), hS.2.2.2.1]
      by_cases c3 : (id - 64) / 8 < F
      · left
        obtain ⟨f, f1, f2⟩ := posf_sur (ev := d 11) c3
        refine ⟨f, f1, by omega, ?_⟩
        obtain ⟨_, _, b2, _⟩ := hS.2.2.2.2.2.2.1 f f1
        rw [f2] at b2
        rw [if_pos (by rw [sI_lt (by omega) (by omega)]; exact c3), mck_s (by omega) (by omega), sI_nn (by omega), b2]
      · right
        refine ⟨fun f hf => ?_, ?_⟩
        · have := posf_lt (ev := d 11) hf
          omega
        · rw [if_neg (by rw [sI_lt (by omega) (by omega)]; exact c3)]
    · right
      refine ⟨fun f hf => by omega, ?_⟩
      rw [if_neg (by rw [show (0 : Int32) = sI 0 from rfl, sI_eq (by omega) (by omega)]; exact c2)]
/-- the reference looks at frames that don't match -/
theorem m_skip126 {fu c C id S F : Nat} {v2 : Int32} {d : Nat → Nat → Nat} {tu : Nat → Bool} {A M : mwM} {L : mwL} (rr : (Int32 × mwM × mwL) → Option (mwM × mwL)) (hS : FrS A M S F d tu) (hC : M 732 19 = sI C) (hC7 : C ≤ 6) (hc : c < C) (hid : id < 2048) : ∀ (r f q : Nat), f + r ≤ F → r < q → (∀ g, f ≤ g → g < f + r → id ≠ 64 + 8 * posf (d 11) F g) → fX19_lookAt_h126 fu (sI c) rr q (v2, sI id, sI f, M, L) = fX19_lookAt_h126 fu (sI c) rr (q - r) (v2, sI id, sI (f + r), M, L) := by
  have hF40 := hS.2.2.2.2.2.1
  intro r
  induction r with
  | zero => intro f q _ _ _; rfl
  | succ r ih =>
    intro f q hf hq hn
    obtain ⟨q', rfl⟩ : ∃ y, q = y + 1 := ⟨q - 1, by omega⟩
    have un : fX19_lookAt_h126 fu (sI c) rr (q' + 1) (v2, sI id, sI f, M, L) = fX19_lookAt_i126 fu (sI c) rr (fX19_lookAt_h126 fu (sI c) rr q') v2 (sI id) (sI f) M L := rfl
    obtain ⟨_, _, _, b3⟩ := hS.2.2.2.2.2.2.1 f (by omega)
    have hp := posf_lt (ev := d 11) (show f < F by omega)
    have nx := ih (f + 1) q' (by omega) (by omega) (fun g g1 g2 => hn g (by omega) (by omega))
    rw [un]
    unfold fX19_lookAt_i126 fX19_lookAt_b168
    rw [hS.2.2.2.2.1, if_neg (show ¬ sI F ≤ sI f by rw [sI_le (by omega) (by omega)]; omega), hC, if_neg (show ¬ sI C ≤ sI c by rw [sI_le (by omega) (by omega)]; omega), mck_s (by omega) (by omega), sI_nn (by omega), b3, sI_lml, sI_lad, if_neg (by rw [sI_eq (by omega) (by omega)]; exact hn f (by omega) (by omega)), mlet_e, sI_1, nx, show q' + 1 - (r + 1) = q' - r from by omega, show f + 1 + r = f + (r + 1) from by omega]
theorem m_end126 {fu c C id S F q : Nat} {v2 : Int32} {d : Nat → Nat → Nat} {tu : Nat → Bool} {A M : mwM} {L : mwL} (rr : (Int32 × mwM × mwL) → Option (mwM × mwL)) (hS : FrS A M S F d tu) (hC : M 732 19 = sI C) : fX19_lookAt_h126 fu (sI c) rr (q + 1) (v2, sI id, sI F, M, L) = rr (v2, M, L) := by
  have hF40 := hS.2.2.2.2.2.1
  show fX19_lookAt_i126 fu (sI c) rr (fX19_lookAt_h126 fu (sI c) rr q) v2 (sI id) (sI F) M L = _
  unfold fX19_lookAt_i126 fX19_lookAt_b174 fX19_lookAt_b214
  rw [hS.2.2.2.2.1, if_pos (by rw [sI_le (by omega) (by omega)]; omega)]
/-- a frame of signals, on both sides -/
theorem st_signals {fu c C id row n3 S F W R X t E : Nat} {v2 : Int32} {d : Nat → Nat → Nat} {tu : Nat → Bool} {g : Nat → Nat → Nat} {own Sb bd ov : Nat → Nat} {A M : mwM} {Lc Lm : mwL} (rr : (Int32 × mwM × mwL) → Option (mwM × mwL)) (hfu : 300 ≤ fu) (hC : M 732 19 = sI C) (hC7 : C ≤ 6) (hc : c < C) (hid : id < 2048) (hrow : row < 61) (hn3 : 8 ≤ n3) (hn4 : n3 < 1000) (hE : E < 800000000) (hbd : bd c < 1000000000) (hB : TkB A M Lc Lm S F W R X t E d tu g own Sb bd) (hov : ∀ y, y < 8 → A row y = sI (ov y) ∧ M 926 y = sI (ov y) ∧ ov y < 256) : ∃ A' Lc' M' Lm' E', mb3 (DX6_frameOf fu (sI id) A Lc) (fun r13 M11 L12 => DX1_takeSignals fu (sI c) r13 row n3 M11 L12) = some (A', Lc') ∧ fX19_lookAt_h126 fu (sI c) rr fu (v2, sI id, 0, M, Lm) = rr (v2, M', Lm') ∧ TkB A' M' Lc' Lm' S F W R X t E' d tu g own Sb (fun x => if x = c then bd x + 64 else bd x) ∧ E ≤ E' ∧ E' ≤ E + 30 ∧ cmA A A' ∧ cmM M M' ∧ tkLc Lc Lc' ∧ cmL Lm Lm' := by
  have hS := hB.1
  have hF40 := hS.2.2.2.2.2.1
  rcases c_frameOf (fu := fu) (L := Lc) hS hid with ⟨f, f1, f2, f3⟩ | ⟨f2, f3⟩
  · obtain ⟨A', Lc', M', Lm', E', z1, z2, z3, z4, z5, z6, z7, z8, z9⟩ := st_come (fu := fu) (c := c) (f := f) hfu (by omega) f1 hrow hn3 hn4 hE hbd hB hov
    refine ⟨A', Lc', M', Lm', E', by rw [f3, mb3_s, z1], ?_, z3, z4, z5, z6, z7, z8, z9⟩
    have s1 := m_skip126 (fu := fu) (c := c) (v2 := v2) (L := Lm) rr hS hC hC7 hc hid f 0 fu (by omega) (by omega) (fun x x1 x2 => by
      rw [f2]
      intro w
      have : posf (d 11) F f = posf (d 11) F x := by omega
      have := posf_in f1 (by omega) this
      omega)
    have s1' : fX19_lookAt_h126 fu (sI c) rr fu (v2, sI id, 0, M, Lm) = _ := s1
    rw [s1', Nat.zero_add]
    obtain ⟨q, hq⟩ : ∃ q, fu - f = q + 1 := ⟨fu - f - 1, by omega⟩
    rw [hq]
    have un : fX19_lookAt_h126 fu (sI c) rr (q + 1) (v2, sI id, sI f, M, Lm) = fX19_lookAt_i126 fu (sI c) rr (fX19_lookAt_h126 fu (sI c) rr q) v2 (sI id) (sI f) M Lm := rfl
    obtain ⟨_, _, _, b3⟩ := hS.2.2.2.2.2.2.1 f f1
    have hp := posf_lt (ev := d 11) f1
    have hC' : M' 732 19 = sI C := by rw [z7 _ _ (by omega) (by omega) (by omega) (by omega) (by omega) (by omega) (by omega) (by omega) (by omega)]; exact hC
    have s2 := m_skip126 (fu := fu) (c := c) (v2 := v2) (L := Lm') rr z3.1 hC' hC7 hc hid (F - (f + 1)) (f + 1) q (by omega) (by omega) (fun x x1 x2 => by
      rw [f2]
      intro w
      have : posf (d 11) F f = posf (d 11) F x := by omega
      have := posf_in f1 (by omega) this
      omega)
    rw [un]
    unfold fX19_lookAt_i126 fX19_lookAt_b168
    rw [hS.2.2.2.2.1, if_neg (show ¬ sI F ≤ sI f by rw [sI_le (by omega) (by omega)]; omega), hC, if_neg (show ¬ sI C ≤ sI c by rw [sI_le (by omega) (by omega)]; omega), mck_s (by omega) (by omega), sI_nn (by omega), b3, sI_lml, sI_lad, if_pos (by rw [f2]), z2, mb2_s, mlet_e, sI_1, s2, show f + 1 + (F - (f + 1)) = F from by omega]
    obtain ⟨q2, hq2⟩ : ∃ x, q - (F - (f + 1)) = x + 1 := ⟨q - (F - (f + 1)) - 1, by omega⟩
    rw [hq2]
    exact m_end126 rr z3.1 hC'
  · have bdle : ∀ x, bd x ≤ (fun x => if x = c then bd x + 64 else bd x) x := fun x => by dsimp only; split <;> omega
    refine ⟨A, Lc, M, Lm, E, ?_, ?_, ?_, by omega, by omega, fun _ _ _ _ _ _ _ _ _ _ => rfl, fun _ _ _ _ _ _ _ _ _ _ _ => rfl, fun _ _ _ _ => rfl, fun _ _ _ _ _ _ => rfl⟩
    · rw [f3, mb3_s]
      unfold DX1_takeSignals
      rw [if_neg (by decide)]
    · have s1 := m_skip126 (fu := fu) (c := c) (v2 := v2) (L := Lm) rr hS hC hC7 hc hid F 0 fu (by omega) (by omega) (fun x x1 x2 => f2 x (by omega))
      have s1' : fX19_lookAt_h126 fu (sI c) rr fu (v2, sI id, 0, M, Lm) = _ := s1
      rw [s1', Nat.zero_add]
      obtain ⟨q2, hq2⟩ : ∃ x, fu - F = x + 1 := ⟨fu - F - 1, by omega⟩
      rw [hq2]
      exact m_end126 rr hS hC
    · obtain ⟨hS, hO, hR, hQ, hW, hT, hC, hK, hN, h1, h2, h16, h83, ht⟩ := hB
      exact ⟨hS, hO, hR, hQ, hW, hT, hC, hK, fun e he x hx => by
        obtain ⟨cn, n1, n2, n3'⟩ := hN e he x hx
        exact ⟨cn, Nat.le_trans n1 (bdle x), n2, n3'⟩, h1, h2, h16, h83, ht⟩
/-! what the transfer's tick leaves of frames made before -/
def Kp (p p' : PB) : Prop := p.1 0 1 ≤ p'.1 0 1 ∧ (∀ i f, 10 ≤ i → i ≤ 12 → f < p.1 0 1 → p'.1 i f = p.1 i f) ∧ (∀ f, f < p.1 0 1 → p'.2 1 f = p.2 1 f) ∧ (∀ f, p.1 0 1 ≤ f → f < p'.1 0 1 → p'.2 1 f = false) ∧ ∀ m, p'.2 0 m = p.2 0 m
theorem Kp_0 {p : PB} : Kp p p := ⟨Nat.le_refl _, fun _ _ _ _ _ => rfl, fun _ _ => rfl, fun f h1 h2 => by omega, fun _ => rfl⟩
theorem Kp_t {p q r : PB} (h1 : Kp p q) (h2 : Kp q r) : Kp p r := by
  obtain ⟨a1, a2, a3, a4, a5⟩ := h1
  obtain ⟨b1, b2, b3, b4, b5⟩ := h2
  refine ⟨by omega, fun i f u1 u2 u3 => by rw [b2 i f u1 u2 (by omega)]; exact a2 i f u1 u2 u3, fun f u => by rw [b3 f (by omega)]; exact a3 f u, fun f u1 u2 => ?_, fun m => by rw [b5]; exact a5 m⟩
  by_cases c : f < q.1 0 1
  · rw [b3 f c]; exact a4 f u1 c
  · exact b4 f (by omega) u2
theorem Kp_mk {p : PB} {kd m sq : Nat} : Kp p (mkN p.1 kd m sq, mkB p.1 p.2) := by
  have e : mkN p.1 kd m sq 0 1 = p.1 0 1 + 1 := by unfold mkN; rw [mset_s]
  refine ⟨by dsimp only; omega, fun i f u1 u2 u3 => ?_, fun f u => ?_, fun f u1 u2 => ?_, fun m => ?_⟩
  · dsimp only
    unfold mkN
    rw [mset_n (by omega), mset_n (by omega), mset_n (by omega), mset_n (by omega)]
  · dsimp only
    unfold mkB
    rw [mset_n (by omega)]
  · dsimp only at u2 ⊢
    rw [e] at u2
    unfold mkB
    rw [show f = p.1 0 1 from by omega, mset_s]
  · dsimp only
    unfold mkB
    rw [mset_n (by omega)]
theorem Kp_s {p q : PB} (h : Kp p q) {n : Nat → Nat → Nat} {b : Nat → Nat → Bool} (hn : ∀ i j, ¬ (3 ≤ i ∧ i ≤ 9) → ¬ (i = 0 ∧ j ≠ 1) → n i j = q.1 i j) (hb : ∀ i j, i ≤ 1 → b i j = q.2 i j) : Kp p (n, b) := by
  obtain ⟨a1, a2, a3, a4, a5⟩ := h
  have e := hn 0 1 (by omega) (by omega)
  exact ⟨by dsimp only; omega, fun i f u1 u2 u3 => by dsimp only; rw [hn i f (by omega) (by omega)]; exact a2 i f u1 u2 u3, fun f u => by dsimp only; rw [hb 1 f (by omega)]; exact a3 f u, fun f u1 u2 => by dsimp only at u2 ⊢; rw [hb 1 f (by omega)]; exact a4 f u1 (by omega), fun m => by dsimp only; rw [hb 0 m (by omega)]; exact a5 m⟩
theorem Kp_bg : ∀ k (p : PB), Kp p (bgA k p) := by
  intro k
  induction k with
  | zero => intro p; exact Kp_0
  | succ k ih =>
    intro p
    show Kp p (if (bgA k p).1 3 (k + 1) = 0 then (bgN (bgA k p).1 (k + 1), mkB (bgA k p).1 (bgA k p).2) else bgA k p)
    split
    · refine Kp_s (Kp_t (ih p) (Kp_mk (p := bgA k p) (kd := if (bgA k p).1 2 (k + 1) ≤ 7 then 0 else 1) (m := k + 1) (sq := 0))) (fun i j u1 u2 => ?_) (fun _ _ _ => rfl)
      unfold bgN
      rw [mset_n (by omega), mset_n (by omega)]
    · exact ih p
theorem Kp_co {m : Nat} : ∀ k (p : PB), Kp p (coP m k p) := by
  intro k
  induction k with
  | zero => intro p; exact Kp_0
  | succ k ih => intro p; exact Kp_t (ih p) Kp_mk
theorem Kp_go {m t : Nat} {p : PB} : Kp p (goP m t p) := by
  unfold goP
  split
  · exact Kp_s (Kp_co _ p) (fun i j u1 u2 => by rw [mset_n (by omega)]) (fun _ _ _ => rfl)
  · split
    · exact Kp_s Kp_0 (fun i j u1 u2 => by rw [mset_n (by omega)]) (fun i j u => by rw [mset_n (by omega)])
    · exact Kp_0
theorem Kp_gA {t : Nat} : ∀ k (p : PB), Kp p (goA t k p) := by
  intro k
  induction k with
  | zero => intro p; exact Kp_0
  | succ k ih => intro p; exact Kp_t (ih p) Kp_go
theorem Kp_rc {t : Nat} : ∀ k (p : PB), Kp p (rcA t k p) := by
  intro k
  induction k with
  | zero => intro p; exact Kp_0
  | succ k ih =>
    intro p
    refine Kp_t (ih p) ?_
    show Kp (rcA t k p) (rcS t k (rcA t k p))
    unfold rcS
    split
    · exact Kp_s Kp_0 (fun i j u1 u2 => by rw [mset_n (by omega)]) (fun i j u => by rw [mset_n (by omega)])
    · exact Kp_0
theorem Kp_tk {t : Nat} {p : PB} : Kp p (tkP t p) := by
  unfold tkP clP
  refine Kp_s (Kp_t (Kp_t (Kp_t (Kp_bg (p.1 0 0) p) (Kp_gA (t := t) (p.1 0 0) _)) ?_) (Kp_rc (t := t) 4 _)) (fun i j u1 u2 => by rw [mset_n (by omega)]) (fun _ _ _ => rfl)
  exact Kp_s Kp_0 (fun i j u1 u2 => by rw [mset_n (by omega)]) (fun _ _ _ => rfl)
theorem Kp_rv {f : Nat} {p : PB} : Kp p (rvQ f p).1 := by
  unfold rvQ
  split
  · dsimp only
    split
    · exact Kp_s Kp_0 (fun i j u1 u2 => by rw [mset_n (by omega)]) (fun _ _ _ => rfl)
    · exact Kp_0
  · split
    · unfold nxQ
      split
      · split
        · split
          · refine Kp_s Kp_0 (fun i j u1 u2 => ?_) (fun _ _ _ => rfl)
            unfold gtN
            rw [mset_n (by omega), mset_n (by omega), mset_n (by omega)]
          · exact Kp_s Kp_0 (fun i j u1 u2 => by rw [mset_n (by omega)]) (fun _ _ _ => rfl)
        · exact Kp_s Kp_0 (fun i j u1 u2 => by rw [mset_n (by omega)]) (fun i j u => by rw [mset_n (by omega)])
      · exact Kp_0
    · split
      · refine Kp_s Kp_0 (fun i j u1 u2 => by rw [mset_n (by omega)]) (fun i j u => ?_)
        unfold reB
        split
        · rw [mset_n (by omega)]
        · rfl
      · dsimp only
        unfold fsP
        refine Kp_t (q := (fsN (p.1 11 f) p.1, mset (reB (p.1 11 f % 4) p) 3 (p.1 11 f) true)) (Kp_s Kp_0 (fun i j u1 u2 => ?_) (fun i j u => ?_)) Kp_mk
        · unfold fsN
          rw [mset_n (by omega), mset_n (by omega), mset_n (by omega), mset_n (by omega), mset_n (by omega)]
        · rw [mset_n (by omega)]
          unfold reB
          split
          · rw [mset_n (by omega)]
          · rfl
theorem rch_g {c : Nat} {tt : Bool} {p : PB} (hG : ∀ f, p.1 0 2 ≤ f → f < p.1 0 1 → p.2 1 f = false) : ∀ f, (rchP c tt p).1.1 0 2 ≤ f → f < (rchP c tt p).1.1 0 1 → (rchP c tt p).1.2 1 f = false := by
  unfold rchP
  cases hf : (List.range (p.1 0 2)).find? (onW p.1 p.2 c tt) with
  | none => exact hG
  | some f0 =>
    dsimp only
    have hm := List.mem_range.mp (List.mem_of_find?_eq_some hf)
    intro f u1 u2
    rw [rv_n (by omega)] at u1
    dsimp only at u1
    obtain ⟨a1, a2, a3, a4, a5⟩ := Kp_rv (f := f0) (p := (p.1, mset p.2 1 f0 true))
    dsimp only at a1 a3 a4
    by_cases c1 : f < p.1 0 1
    · rw [a3 f c1, mset_n (by omega)]
      exact hG f u1 c1
    · exact a4 f (by omega) u2
/-! a frame of the transfer has come -/
theorem TfC_w {A A' : mwM} {n : Nat → Nat → Nat} {b : Nat → Nat → Bool} {o : Nat → Nat → Nat} (h : TfC A n b o) (hK : n 0 0 ≤ 100) (hA : ∀ a y, 154 ≤ a → a ≤ 273 → A' a y = A a y) : TfC A' n b o := by
  obtain ⟨⟨h1, h2, h3, h4, h5, h6⟩, h7, h8, h9⟩ := h
  refine ⟨⟨by rw [hA _ _ (by omega) (by omega)]; exact h1, by rw [hA _ _ (by omega) (by omega)]; exact h2, by rw [hA _ _ (by omega) (by omega)]; exact h3, by rw [hA _ _ (by omega) (by omega)]; exact h4, by rw [hA _ _ (by omega) (by omega)]; exact h5, by rw [hA _ _ (by omega) (by omega)]; exact h6⟩, fun m u1 u2 => ?_, fun r u => ?_, fun f u => ?_⟩
  · obtain ⟨q1, q2, q3, q4, q5, q6⟩ := h7 m u1 u2
    exact ⟨by rw [hA _ _ (by omega) (by omega)]; exact q1, by rw [hA _ _ (by omega) (by omega)]; exact q2, by rw [hA _ _ (by omega) (by omega)]; exact q3, by rw [hA _ _ (by omega) (by omega)]; exact q4, fun w => by rw [hA _ _ (by omega) (by omega)]; exact q5 w, fun i w => by rw [hA _ _ (by omega) (by omega)]; exact q6 i w⟩
  · obtain ⟨q1, q2⟩ := h8 r u
    refine ⟨by rw [hA _ _ (by omega) (by omega)]; exact q1, fun w => ?_⟩
    obtain ⟨q3, q4, q5, q6⟩ := q2 w
    exact ⟨by rw [hA _ _ (by omega) (by omega)]; exact q3, by rw [hA _ _ (by omega) (by omega)]; exact q4, by rw [hA _ _ (by omega) (by omega)]; exact q5, by rw [hA _ _ (by omega) (by omega)]; exact q6⟩
  · obtain ⟨q1, q2, q3, q4⟩ := h9 f u
    exact ⟨by rw [hA _ _ (by omega) (by omega)]; exact q1, by rw [hA _ _ (by omega) (by omega)]; exact q2, by rw [hA _ _ (by omega) (by omega)]; exact q3, by rw [hA _ _ (by omega) (by omega)]; exact q4⟩
/-- what was answered -/
def AnR (A M : mwM) (n : Nat → Nat → Nat) (o : Nat → Nat → Nat) : Prop := (A 3 18 = sI 0 ∧ M 732 98 = sI 0) ∨ ∃ m, 1 ≤ m ∧ m ≤ n 0 0 ∧ A 3 18 = sI m ∧ M 732 98 = sI (n 2 m) ∧ ∀ j, j < n 2 m → M 931 j = sI (o m j)
/-- the transfer and the questions, as both keep them -/
def TrB (A M : mwM) (Lm : mwL) (C : Nat) (Sb : Nat → Nat) (p : PB) (o : Nat → Nat → Nat) (e : Nat → Nat) : Prop :=
  TfV p.1 p.2 ∧ TfC A p.1 p.2 o ∧ TfM M Lm (p.1 0 3) p.1 p.2 o e ∧ TfN M p.1 p.2 e ∧ TfT p.1 (p.1 0 3) ∧ (∀ m, 1 ≤ m → m ≤ p.1 0 0 → p.1 1 m < C) ∧ A 3 17 = M 732 97 ∧ A 292 3 = M 939 3 ∧ AnR A M p.1 o ∧ QuR A M ∧ KnC A Sb 16 ∧ ∀ f, p.1 0 2 ≤ f → f < p.1 0 1 → p.2 1 f = false
abbrev trA (A A' : mwM) : Prop := ∀ a y, ¬ (154 ≤ a ∧ a ≤ 273) → ¬ (275 ≤ a ∧ a ≤ 282) → ¬ (137 ≤ a ∧ a ≤ 138) → ¬ (a = 139 ∧ y = 3) → ¬ (146 ≤ a ∧ a ≤ 150) → ¬ (a = 3 ∧ (y = 17 ∨ y = 18)) → ¬ (a = 292 ∧ y = 3) → A' a y = A a y
abbrev trM (M M' : mwM) : Prop := ∀ a y, ¬ (a = 732 ∧ (y = 88 ∨ y = 91 ∨ y = 95 ∨ y = 97 ∨ y = 98 ∨ y = 102 ∨ y = 108)) → ¬ (869 ≤ a ∧ a ≤ 920) → ¬ (927 ≤ a ∧ a ≤ 938) → ¬ (a = 939 ∧ y = 3) → a ≠ 854 → a ≠ 858 → a ≠ 859 → ¬ (863 ≤ a ∧ a ≤ 867) → ¬ (964 ≤ a ∧ (a - 964) % 53 = 0 ∧ y = 0) → M' a y = M a y
abbrev trC (L L' : mwL) : Prop := ∀ a y, ¬ (293 ≤ a ∧ (a - 293) % 36 = 34 ∧ y < 32) → L' a y = L a y
abbrev trL (L L' : mwL) : Prop := ∀ a y, ¬ (a = 881 ∨ a = 889 ∨ a = 897) → ¬ (964 ≤ a ∧ (a - 964) % 53 = 21 ∧ y < 32) → L' a y = L a y
theorem TkB_tr {A A' M M' : mwM} {Lc Lc' Lm Lm' : mwL} {S F W R X t E : Nat} {d : Nat → Nat → Nat} {tu : Nat → Bool} {g : Nat → Nat → Nat} {own Sb bd : Nat → Nat} (h : TkB A M Lc Lm S F W R X t E d tu g own Sb bd) (hA : trA A A') (hM : trM M M') (hC : trC Lc Lc') (hL : trL Lm Lm') (hT : RTr A' M' W E) (hR : RCd A' M' Sb) (hD : ∀ x, x < X → Lc' (293 + 36 * x + 34) = Lm' (964 + 53 * x + 21)) : TkB A' M' Lc' Lm' S F W R X t E d tu g own Sb bd := by
  obtain ⟨kS, kO, kR, kQ, kW, kT, kC, kK, kN, k1, k2, k16, k83, kt⟩ := h
  have hX := kO.1
  refine ⟨FrS_f kS (fun a y u => hA a y (by omega) (by omega) (by omega) (by omega) (by omega) (by omega) (by omega)) (fun a y u => hM a y (by omega) (by omega) (by omega) (by omega) (by omega) (by omega) (by omega) (by omega) (by omega)), ChO_f kO (fun x hx => hA _ _ (by omega) (by omega) (by omega) (by omega) (by omega) (by omega) (by omega)) (fun a y u => hM a y (by omega) (by omega) (by omega) (by omega) (by omega) (by omega) (by omega) (by omega) (by omega)), RdR_f kR (fun a y u => hA a y (by omega) (by omega) (by omega) (by omega) (by omega) (by omega) (by omega)) (fun a y u => hM a y (by omega) (by omega) (by omega) (by omega) (by omega) (by omega) (by omega) (by omega) (by omega)) (fun y => hC _ _ (by omega)) (fun y => hL _ _ (by omega) (by omega)), fun x hx => ?_, WtR_f kW (fun a y u => hA a y (by omega) (by omega) (by omega) (by omega) (by omega) (by omega) (by omega)) (fun a y u => hM a y (by omega) (by omega) (by omega) (by omega) (by omega) (by omega) (by omega) (by omega) (by omega)) (fun y => hL _ _ (by omega) (by omega)), hT, hR, fun f hf hz => KnC_f (kK f hf hz) (FrS_lo kS hf) (fun a y u1 u2 => hA a y (by omega) (by omega) (by omega) (by omega) (by omega) (by omega) (by omega)), fun f hf c hc => ?_, ?_, ?_, ?_, ?_, kt⟩
  · obtain ⟨qn, q1, q2, q3, q4, q5⟩ := kQ x hx
    exact ⟨qn, q1, by rw [hA _ _ (by omega) (by omega) (by omega) (by omega) (by omega) (by omega) (by omega)]; exact q2, by rw [hM _ _ (by omega) (by omega) (by omega) (by omega) (by omega) (by omega) (by omega) (by omega) (by omega)]; exact q3, fun i hi => by rw [hA _ _ (by omega) (by omega) (by omega) (by omega) (by omega) (by omega) (by omega), hM _ _ (by omega) (by omega) (by omega) (by omega) (by omega) (by omega) (by omega) (by omega) (by omega)]; exact q4 i hi, hD x hx⟩
  · obtain ⟨cn, n1, n2, n3⟩ := kN f hf c hc
    exact ⟨cn, n1, by rw [hA _ _ (by omega) (by omega) (by omega) (by omega) (by omega) (by omega) (by omega)]; exact n2, by rw [hL _ _ (by omega) (by omega)]; exact n3⟩
  · rw [hA _ _ (by omega) (by omega) (by omega) (by omega) (by omega) (by omega) (by omega), hM _ _ (by omega) (by omega) (by omega) (by omega) (by omega) (by omega) (by omega) (by omega) (by omega)]; exact k1
  · rw [hA _ _ (by omega) (by omega) (by omega) (by omega) (by omega) (by omega) (by omega), hM _ _ (by omega) (by omega) (by omega) (by omega) (by omega) (by omega) (by omega) (by omega) (by omega)]; exact k2
  · rw [hA _ _ (by omega) (by omega) (by omega) (by omega) (by omega) (by omega) (by omega)]; exact k16
  · rw [hM _ _ (by omega) (by omega) (by omega) (by omega) (by omega) (by omega) (by omega) (by omega) (by omega)]; exact k83
/-- what the reach of a frame leaves of the numbers -/
theorem rch_n {c : Nat} {tt : Bool} {p : PB} (hv : TfV p.1 p.2) (hT : TfT p.1 (p.1 0 3)) : (rchP c tt p).1.1 0 0 = p.1 0 0 ∧ (rchP c tt p).1.1 0 3 = p.1 0 3 ∧ (∀ m, (rchP c tt p).1.1 1 m = p.1 1 m) ∧ (∀ m, (rchP c tt p).1.1 2 m = p.1 2 m) ∧ (∀ m, (rchP c tt p).1.2 0 m = p.2 0 m) ∧ TfT (rchP c tt p).1.1 (p.1 0 3) := by
  unfold rchP
  cases hf : (List.range (p.1 0 2)).find? (onW p.1 p.2 c tt) with
  | none => exact ⟨rfl, rfl, fun _ => rfl, fun _ => rfl, fun _ => rfl, hT⟩
  | some f =>
    dsimp only
    have hm := List.mem_range.mp (List.mem_of_find?_eq_some hf)
    have hle := hv.1.2.1
    refine ⟨by rw [rv_n (by omega)], by rw [rv_n (by omega)], fun m => by rw [rv_n (by omega)], fun m => by rw [rv_n (by omega)], fun m => ?_, T_rv (p := (p.1, mset p.2 1 f true)) (V_gone hv) (by dsimp only; omega) hT⟩
    rw [rv_b (Or.inl rfl)]
    show mset p.2 1 f true 0 m = _
    rw [mset_n (by omega)]
theorem c_make9n {fu a3 n3 : Nat} {c a sz : Int32} {A : mwM} {L : mwL} (h : A 154 5 = sI 100) : DX9_make fu c a a3 n3 sz A L = some (A, L) := by
  unfold DX9_make fX9_make_b22
  rw [h, if_pos (by decide)]
