/-! a frame is sealed -/
theorem a255 {n : Nat} (h : n < 2000000000) : sI n &&& 255 = sI (n % 256) := by rw [and255, uI_s h]
def cdF (Sb : Nat → Nat) (key P n : Nat) (oc : Nat → Nat) (i : Nat) : Nat := cmac Sb (scN Sb key) 12 (vS P n oc) i
theorem c_seal {fu f n P key : Nat} {A M : mwM} {L : mwL} {Sb oc : Nat → Nat} (hfu : 200 ≤ fu) (hf : f < 40) (hn : n < 2000000000) (hP : P < 40) (h77 : A 77 f = sI n) (h78 : A 78 f = sI P) (h76 : A 76 f = sI key) (hk2 : key < 17) (hC : RCd A M Sb) (hK : KnC A Sb key) (ho : ∀ i, i < 3 → A 95 i = sI (oc i) ∧ oc i < 256) : ∃ A', DX6_seal fu (sI f) A L = some (A', L) ∧ (∀ i, i < 3 → A' 95 i = sI (oc i)) ∧ A' 95 3 = sI (n % 256) ∧ (∀ i, i < 4 → A' 95 (4 + i) = sI (cdF Sb key P n oc i) ∧ cdF Sb key P n oc i < 256) ∧ ∀ a y, ¬ (a = 95 ∧ y < 8) → a ≠ 96 → a ≠ 137 → a ≠ 138 → A' a y = A a y := by
  unfold DX6_seal
  have e3 : (3 : Int32).toNatClampNeg = 3 := rfl
  have t9 : ∀ a y, ¬ (a = 95 ∧ y = 3) → mset A 95 3 (sI (n % 256)) a y = A a y := fun a y w => mset_n w
  obtain ⟨B, b1, b2, b3⟩ := c_makeCode (fu := fu) (f := f) (n := n) (P := P) (key := key) (row := 95) (n3 := 8) (A := mset A 95 3 (sI (n % 256))) (M := M) (L := L) (S := Sb) (oc := oc) hfu hf hn hP (by rw [t9 _ _ (by omega)]; exact h78) (by rw [t9 _ _ (by omega)]; exact h76) hk2 (RCd_fr hC (fun a y _ _ => t9 a y (by omega)) (fun _ _ _ => rfl)) (by
    obtain ⟨k1, k2, k3⟩ := hK
    exact ⟨by rw [t9 _ _ (by omega)]; exact k1, fun i u => by rw [t9 _ _ (by omega)]; exact k2 i u, fun i u => by rw [t9 _ _ (by omega)]; exact k3 i u⟩) (by omega) (by omega) (by omega) (by omega) (fun i hi => by rw [t9 _ _ (by omega)]; exact ho i hi)
  rw [mck_s hf (by omega), mlet_e, sI_nn (show f < 2000000000 by omega), h77, a255 hn, e3, mck_s hf (by omega), t9 77 f (by omega), h77, b1, mb2_s]
  have key1 : ∀ (r i q : Nat) (C : mwM), i + r = 4 → r < q → (∀ x, x < i → C 95 (4 + x) = sI (cdF Sb key P n oc x)) → (∀ a y, ¬ (a = 95 ∧ 4 ≤ y) → C a y = B a y) → ∃ A', fX6_seal_h38 fu (sI f) q (sI i, C, L) = some (A', L) ∧ (∀ x, x < 4 → A' 95 (4 + x) = sI (cdF Sb key P n oc x)) ∧ ∀ a y, ¬ (a = 95 ∧ 4 ≤ y ∧ y < 8) → A' a y = C a y := by
    intro r
    induction r with
    | zero =>
      intro i q C hi hq h1 h2
      obtain ⟨q', rfl⟩ : ∃ y, q = y + 1 := ⟨q - 1, by omega⟩
      refine ⟨C, ?_, fun x hx => h1 x (by omega), fun _ _ _ => rfl⟩
      show fX6_seal_i38 fu (sI f) (fX6_seal_h38 fu (sI f) q') (sI i) C L = _
      unfold fX6_seal_i38
      rw [if_pos (by rw [sI_lle (by decide) (by omega)]; omega)]
    | succ r ih =>
      intro i q C hi hq h1 h2
      obtain ⟨q', rfl⟩ : ∃ y, q = y + 1 := ⟨q - 1, by omega⟩
      have un : fX6_seal_h38 fu (sI f) (q' + 1) (sI i, C, L) = fX6_seal_i38 fu (sI f) (fX6_seal_h38 fu (sI f) q') (sI i) C L := rfl
      rw [un]
      unfold fX6_seal_i38
      rw [if_neg (by rw [sI_lle (by decide) (by omega)]; omega), mck_s (by omega) (by omega), sI_lad, mck_s (by omega) (by omega), mlet_e, mlet_e, sI_nn (by omega), sI_nn (by omega), h2 138 i (by omega), (b2 i (by omega)).1, sI_1]
      obtain ⟨A', k1, k2, k3⟩ := ih (i + 1) q' (mset C 95 (4 + i) (sI (cmac Sb (scN Sb key) 12 (vS P n oc) i))) (by omega) (by omega) (fun x hx => by
        by_cases e : x = i
        · rw [e, mset_s]; rfl
        · rw [mset_n (by omega)]; exact h1 x (by omega)) (fun a y w => by rw [mset_n (by omega)]; exact h2 a y w)
      exact ⟨A', k1, k2, fun a y w => by rw [k3 a y w, mset_n (by omega)]⟩
  obtain ⟨A', k1, k2, k3⟩ := key1 4 0 fu B (by omega) (by omega) (fun x hx => by omega) (fun _ _ _ => rfl)
  refine ⟨A', k1, fun i hi => ?_, ?_, fun i hi => ⟨k2 i hi, (b2 i (by omega)).2⟩, fun a y w1 w2 w3 w4 => ?_⟩
  · rw [k3 _ _ (by omega), b3 _ _ (by omega) (by omega) (by omega), t9 _ _ (by omega)]
    exact (ho i hi).1
  · rw [k3 _ _ (by omega), b3 _ _ (by omega) (by omega) (by omega), mset_s]
  · rw [k3 a y (by omega), b3 a y w2 w3 w4, t9 a y (by omega)]
/-- the reference: behind the octets of a frame -/
theorem m_seal {fu f n P key k : Nat} {x : Int32} {A M : mwM} {L : mwL} {Sb oc : Nat → Nat} (hfu : 200 ≤ fu) (hf : f < 40) (hn : n < 1000000) (hP : P < 40) (h785 : M 785 f = sI n) (h784 : M 784 f = sI P) (h783 : M 783 f = sI key) (hk2 : key ≤ 16) (hC : RCd A M Sb) (ho : ∀ i, i < 8 → M 926 i = sI (oc i) ∧ oc i < 256) : ∃ M', fX19_send_i87 fu (sI f) (fun _ => none) k x 8 M L = fX19_send_b217 fu (sI f) M' L ∧ M' 785 f = sI (n + 1) ∧ (key = 0 → ∀ i, i < 8 → M' 926 i = sI (oc i)) ∧ (key ≠ 0 → (∀ i, i < 3 → M' 926 i = sI (oc i)) ∧ M' 926 3 = sI ((n + 1) % 256) ∧ ∀ i, i < 4 → M' 926 (4 + i) = sI (cdF Sb key P (n + 1) oc i)) ∧ RCd A M' Sb ∧ ∀ a y, ¬ (a = 785 ∧ y = f) → ¬ (a = 926 ∧ y < 8) → ¬ (a = 854 ∧ (y = 0 ∨ y = 6 ∨ y = 7)) → a ≠ 858 → a ≠ 859 → ¬ (863 ≤ a ∧ a ≤ 867) → M' a y = M a y := by
  have t1 : ∀ a y, ¬ (a = 785 ∧ y = f) → mset M 785 f (sI (n + 1)) a y = M a y := fun a y w => mset_n w
  have e3 : (3 : Int32).toNatClampNeg = 3 := rfl
  unfold fX19_send_i87
  rw [if_pos (by decide), mck_s hf (by omega), mck_s hf (by omega), mlet_e, sI_nn (show f < 2000000000 by omega), h785, sI_1, mck_s hf (by omega), t1 783 f (by omega), h783]
  by_cases z : key = 0
  · rw [if_pos (by rw [z]; decide)]
    exact ⟨_, rfl, by rw [mset_s], fun _ i hi => by rw [t1 _ _ (by omega)]; exact (ho i hi).1, fun w => absurd z w, RCd_fr hC (fun _ _ _ _ => rfl) (fun a y w => t1 a y (by omega)), fun a y w1 _ _ _ _ _ => t1 a y w1⟩
  · rw [if_neg (by rw [sI_lel (by omega) (by decide)]; omega), mck_s hf (by omega), mset_s, a255 (by omega), e3, mlet_e, mck_s hf (by omega)]
    generalize hB : mset (mset M 785 f (sI (n + 1))) 926 3 (sI ((n + 1) % 256)) = B
    have tB : ∀ a y, ¬ (a = 785 ∧ y = f) → ¬ (a = 926 ∧ y = 3) → B a y = M a y := fun a y w1 w2 => by rw [← hB, mset_n w2, mset_n w1]
    have b785 : B 785 f = sI (n + 1) := by rw [← hB, mset_n (by omega), mset_s]
    rw [b785, sI_L (by omega)]
    obtain ⟨C, c1, c2, c3, c4, c5⟩ := m_codeF (fu := fu) (f := f) (n := n + 1) (P := P) (key := key) (A := A) (M := B) (L := L) (S := Sb) (oc := oc) hfu hf (by omega) hP (by rw [tB _ _ (by omega) (by omega)]; exact h784) (by rw [tB _ _ (by omega) (by omega)]; exact h783) (by omega) hk2 (RCd_fr hC (fun _ _ _ _ => rfl) (fun a y w => tB a y (by omega) (by omega))) (fun i hi => by rw [tB _ _ (by omega) (by omega)]; exact ho i (by omega))
    rw [c1, mb2_s]
    have key1 : ∀ (r i q : Nat) (D : mwM), i + r = 4 → r < q → (∀ x, x < i → D 926 (4 + x) = sI (cdF Sb key P (n + 1) oc x)) → (∀ a y, ¬ (a = 926 ∧ 4 ≤ y) → ¬ (a = 854 ∧ y = 0) → D a y = C a y) → ∃ M', fX19_send_h183 fu (sI f) q (sI i, D, L) = fX19_send_b217 fu (sI f) M' L ∧ (∀ x, x < 4 → M' 926 (4 + x) = sI (cdF Sb key P (n + 1) oc x)) ∧ ∀ a y, ¬ (a = 926 ∧ 4 ≤ y ∧ y < 8) → ¬ (a = 854 ∧ y = 0) → M' a y = D a y := by
      intro r
      induction r with
      | zero =>
        intro i q D hi hq h1 h2
        obtain ⟨q', rfl⟩ : ∃ y, q = y + 1 := ⟨q - 1, by omega⟩
        refine ⟨D, ?_, fun x hx => h1 x (by omega), fun _ _ _ _ => rfl⟩
        show fX19_send_i183 fu (sI f) (fX19_send_h183 fu (sI f) q') (sI i) D L = _
        unfold fX19_send_i183
        rw [if_pos (by rw [sI_lle (by decide) (by omega)]; omega)]
      | succ r ih =>
        intro i q D hi hq h1 h2
        obtain ⟨q', rfl⟩ : ∃ y, q = y + 1 := ⟨q - 1, by omega⟩
        have un : fX19_send_h183 fu (sI f) (q' + 1) (sI i, D, L) = fX19_send_i183 fu (sI f) (fX19_send_h183 fu (sI f) q') (sI i) D L := rfl
        rw [un]
        obtain ⟨d1, d2⟩ := c2 i (by omega)
        obtain ⟨z, z1, z2⟩ := m_out (fu := fu) (M := D) (L := L) (i := i) (by omega) (by rw [h2 _ _ (by omega) (by omega)]; exact c4) (by rw [h2 _ _ (by omega) (by omega)]; exact d1) d2
        unfold fX19_send_i183
        rw [if_neg (by rw [sI_lle (by decide) (by omega)]; omega), z1, mb3_s, sI_lad, mck_s (by omega) (by omega), mlet_e, mlet_e, sI_nn (by omega), z2, sI_1]
        obtain ⟨M', k1, k2, k3⟩ := ih (i + 1) q' (mset (mset D 854 0 0) 926 (4 + i) (sI (cmac Sb (scN Sb key) 12 (vS P (n + 1) oc) i))) (by omega) (by omega) (fun x hx => by
          by_cases e : x = i
          · rw [e, mset_s]; rfl
          · rw [mset_n (by omega), mset_n (by omega)]; exact h1 x (by omega)) (fun a y w1 w2 => by rw [mset_n (by omega), mset_n (by omega)]; exact h2 a y w1 w2)
        exact ⟨M', k1, k2, fun a y w1 w2 => by rw [k3 a y w1 w2, mset_n (by omega), mset_n (by omega)]⟩
    obtain ⟨M', k1, k2, k3⟩ := key1 4 0 fu C (by omega) (by omega) (fun x hx => by omega) (fun _ _ _ _ => rfl)
    refine ⟨M', k1, ?_, fun w => absurd w z, fun _ => ⟨fun i hi => ?_, ?_, k2⟩, ?_, fun a y w1 w2 w3 w4 w5 w6 => ?_⟩
    · rw [k3 _ _ (by omega) (by omega), c5 _ _ (by omega) (by omega) (by omega) (by omega)]; exact b785
    · rw [k3 _ _ (by omega) (by omega), c5 _ _ (by omega) (by omega) (by omega) (by omega), tB _ _ (by omega) (by omega)]; exact (ho i (by omega)).1
    · rw [k3 _ _ (by omega) (by omega), c5 _ _ (by omega) (by omega) (by omega) (by omega), ← hB, mset_s]
    · refine RCd_fr hC (fun _ _ _ _ => rfl) (fun a y w => ?_)
      by_cases e : a = 854 ∧ y = 6
      · rw [e.1, e.2, k3 _ _ (by omega) (by omega), c3]
        exact hC.2.2.2.2.1.symm
      · rw [k3 _ _ (by omega) (by omega), c5 _ _ (by omega) (by omega) (by omega) (by omega), tB _ _ (by omega) (by omega)]
    · rw [k3 a y (by omega) (by omega), c5 a y w3 w4 w5 w6, tB a y w1 (by omega)]
