/-! a frame is given to the bus: both sides alike -/
def ocN (oc : Nat → Nat → Nat) (F : Nat) (q : Nat → Nat) : Nat → Nat → Nat := fun g => if g = F then q else oc g
theorem ocN_s {oc : Nat → Nat → Nat} {F : Nat} {q : Nat → Nat} : ocN oc F q F = q := if_pos rfl
theorem ocN_n {oc : Nat → Nat → Nat} {F g : Nat} {q : Nat → Nat} (h : g ≠ F) : ocN oc F q g = oc g := if_neg h
/-- more frames: a node keeps what it has -/
theorem NdR_F {A A' M M' : mwM} {F n0 i0 : Nat} {q : Nat → Nat} {ow id : Nat → Nat} {oc : Nat → Nat → Nat} {dn : Nat → Nat} {m t ecn tcn : Nat} (h : NdR A M F ow id oc dn m t ecn tcn) (hA : ∀ a y, ((25 ≤ a ∧ a ≤ 29) ∧ y = m) ∨ a = 34 + m ∨ a = 47 + 2 * m ∨ a = 48 + 2 * m → A' a y = A a y) (hM : ∀ a y, 831 ≤ a ∧ a ≤ 837 → M' a y = M a y) : NdR A' M' (F + 1) (nst ow F n0) (nst id F i0) (ocN oc F q) (nst dn F 0) m t ecn tcn := by
  rcases h with ⟨h1, h2, h3, h4⟩ | ⟨f, K, f1, f2, f3, f4, f5, f6, f7, f8, f9, f10, f11, f12, f13, f14, f15⟩ | ⟨s, K, k1, k2, k3, k4, k5⟩ | ⟨st, lf, g1, g2, g3, g4, g5, g6, g7, g8, g9⟩
  · exact Or.inl ⟨by rw [hA 25 m (by omega)]; exact h1, by rw [hM 831 m (by omega)]; exact h2, h3, h4⟩
  · have e1 : nst id F i0 f = id f := nst_n (by omega)
    have e2 : ocN oc F q f = oc f := ocN_n (by omega)
    refine Or.inr (Or.inl ⟨f, K, by omega, by rw [nst_n (by omega)]; exact f2, by rw [nst_n (by omega)]; exact f3, by rw [hA 25 m (by omega)]; exact f4, by rw [hM 831 m (by omega)]; exact f5, by rw [hA 27 m (by omega)]; exact f6, by rw [hM 833 m (by omega)]; exact f7, by rw [hA 28 m (by omega)]; exact f8, by rw [hM 836 m (by omega)]; exact f9, f10, by rw [e1, e2]; exact f11, by rw [e1, e2]; exact WvR_fr f12 (fun x y u => hA x y (by omega)), fun i u1 u2 => ?_, f14, f15⟩)
    rw [e1, e2] at u2 ⊢
    rw [hM 837 _ (by omega)]
    exact f13 i u1 u2
  · exact Or.inr (Or.inr (Or.inl ⟨s, K, by rw [hA 25 m (by omega)]; exact k1, by rw [hM 831 m (by omega)]; exact k2, LiR_fr k3 (fun x y u => hA x y (by omega)) (fun x y u => hM x y (by omega)), k4, k5⟩))
  · exact Or.inr (Or.inr (Or.inr ⟨st, lf, g1, g2, by rw [hA 25 m (by omega)]; exact g3, by rw [hM 831 m (by omega)]; exact g4, fun z => by rw [hA 26 m (by omega), hM 832 m (by omega)]; exact g5 z, g6, g7, g8, g9⟩))
theorem NdR_s {A M : mwM} {F : Nat} {ow id : Nat → Nat} {oc : Nat → Nat → Nat} {dn : Nat → Nat} {m t ecn tcn : Nat} (h : NdR A M F ow id oc dn m t ecn tcn) : ∃ st sd, M 831 m = sI st ∧ st < 100 ∧ (st = 1 → M 833 m = sI sd ∧ sd < F) := by
  rcases h with ⟨h1, h2, h3, h4⟩ | ⟨f, K, f1, f2, f3, f4, f5, f6, f7, _⟩ | ⟨s, K, k1, k2, _⟩ | ⟨st, lf, g1, g2, g3, g4, _⟩
  · exact ⟨0, 0, h2, by omega, fun z => by omega⟩
  · exact ⟨1, f, f5, by omega, fun _ => ⟨f7, f1⟩⟩
  · exact ⟨2, 0, k2, by omega, fun z => by omega⟩
  · exact ⟨st, 0, g4, by omega, fun z => by omega⟩
theorem cnt_F {p q : Nat → Bool} {F : Nat} (h : ∀ i, i < F → q i = p i) : cnt q (F + 1) = cnt p F + (if q F = true then 1 else 0) := by
  have e : cnt q (F + 1) = cnt q F + (if q F = true then 1 else 0) := rfl
  rw [e, cnt_congr h]
/-- the relation behind a send -/
theorem Bus_send {A A' M M' : mwM} {N t F n ident : Nat} {q : Nat → Nat} {ow id : Nat → Nat} {oc : Nat → Nat → Nat} {dn ec tc fl : Nat → Nat} {asl : Bool} (hB : BusR A M N t F ow id oc dn ec tc fl asl) (hF2 : F < 200) (hn : n < N) (hid : ident < 2048) (hq : ∀ i, i < 8 → q i < 256)
    (c43 : A' 43 F = sI n) (c44 : A' 44 F = sI ident) (c45 : A' 45 F = sI 0) (c46 : ∀ i, i < 8 → A' 46 (8 * F + i) = sI (q i)) (c9 : A' 20 9 = sI (F + 1)) (c30 : A' 30 n = sI (cnt (fun f => decide (ow f = n ∧ dn f = 0)) F + 1)) (c13 : A' 20 13 = bI false) (cf : ∀ a y, ¬ ((a = 43 ∨ a = 44 ∨ a = 45) ∧ y = F) → ¬ (a = 46 ∧ 8 * F ≤ y ∧ y < 8 * F + 8) → ¬ (a = 20 ∧ (y = 9 ∨ y = 13)) → ¬ (a = 30 ∧ y = n) → A' a y = A a y)
    (m4 : M' 821 4 = sI (F + 1)) (m823 : M' 823 F = sI n) (m824 : M' 824 F = sI ident) (m825 : M' 825 F = 0) (m826 : M' 826 F = 8) (m828 : M' 828 F = sI 0) (m827 : ∀ i, i < 8 → M' 827 (64 * F + i) = sI (q i)) (m50 : M' 821 50 = -1) (mf : ∀ a y, ¬ (a = 821 ∧ (y = 0 ∨ y = 4 ∨ y = 50)) → ¬ ((823 ≤ a ∧ a ≤ 826 ∨ a = 828) ∧ y = F) → ¬ (a = 827 ∧ 64 * F ≤ y ∧ y < 64 * F + 64) → ¬ (a = 732 ∧ y = 91) → a ≠ 929 → a ≠ 930 → M' a y = M a y) :
    BusR A' M' N t (F + 1) (nst ow F n) (nst id F ident) (ocN oc F q) (nst dn F 0) ec tc fl false := by
  obtain ⟨⟨h1, ⟨h2, h2', h2''⟩, ⟨h3, h3', h3''⟩, ⟨h4, h4', h4''⟩, h5, h6, ⟨h7, h7', h7''⟩, ⟨h8, h8'⟩, h9, h10, ⟨tn, h11, h11'⟩, h12⟩, hd, hO, hFl, _, hbit⟩ := hB
  have dc : cnt (fun f => decide (nst dn F 0 f = 1)) (F + 1) = cnt (fun f => decide (dn f = 1)) F := by
    rw [cnt_F (p := fun f => decide (dn f = 1)) (fun i u => by rw [nst_n (by omega)]), nst_s]
    rfl
  refine ⟨⟨h1, ⟨by rw [cf 20 8 (by omega) (by omega) (by omega) (by omega)]; exact h2, by rw [mf 821 1 (by omega) (by omega) (by omega) (by omega) (by omega) (by omega)]; exact h2', by rw [mf 821 2 (by omega) (by omega) (by omega) (by omega) (by omega) (by omega)]; exact h2''⟩, ⟨c9, by omega, fun f u => ?_⟩, ⟨m4, by omega, fun f u => ?_⟩, Or.inl m50, CA_fr h6 (fun a y u => mf a y (by omega) (by omega) (by omega) (by omega) (by omega) (by omega)), ⟨by rw [cf 20 10 (by omega) (by omega) (by omega) (by omega)]; exact h7, by rw [mf 821 29 (by omega) (by omega) (by omega) (by omega) (by omega) (by omega)]; exact h7', fun i u => ?_⟩, ⟨by rw [cf 20 11 (by omega) (by omega) (by omega) (by omega), dc]; exact h8, by rw [mf 821 11 (by omega) (by omega) (by omega) (by omega) (by omega) (by omega), dc]; exact h8'⟩, fun m u => ?_, by rw [mf 821 22 (by omega) (by omega) (by omega) (by omega) (by omega) (by omega)]; exact h10, ⟨tn, fun k u => by rw [mf 839 k (by omega) (by omega) (by omega) (by omega) (by omega) (by omega)]; exact h11 k u, h11'⟩, h12⟩, fun m u => NdR_F (hd m u) (fun a y w => cf a y (by omega) (by omega) (by omega) (by omega)) (fun a y w => mf a y (by omega) (by omega) (by omega) (by omega) (by omega) (by omega)), fun k u => ?_, fun t' ht' => ?_, ⟨c13, fun z => by cases z⟩, fun i u => ?_⟩
  · by_cases z : f = F
    · rw [z, nst_s, nst_s, nst_s, ocN_s]
      exact ⟨c43, by omega, c44, hid, c45, by omega, fun i w => ⟨c46 i w, hq i w⟩⟩
    · obtain ⟨a1, a2, a3, a4, a5, a6, a7⟩ := h3'' f (by omega)
      rw [nst_n z, nst_n z, nst_n z, ocN_n z]
      exact ⟨by rw [cf 43 f (by omega) (by omega) (by omega) (by omega)]; exact a1, a2, by rw [cf 44 f (by omega) (by omega) (by omega) (by omega)]; exact a3, a4, by rw [cf 45 f (by omega) (by omega) (by omega) (by omega)]; exact a5, a6, fun i w => by rw [cf 46 _ (by omega) (by omega) (by omega) (by omega)]; exact a7 i w⟩
  · by_cases z : f = F
    · rw [z, nst_s, nst_s, nst_s, ocN_s]
      exact ⟨m823, by omega, hid, m828, by omega, m824, m825, m826, fun i w => ⟨m827 i w, hq i w⟩⟩
    · obtain ⟨a1, a2, a3, a4, a5, b1, b2, b3, b4⟩ := h4'' f (by omega)
      rw [nst_n z, nst_n z, nst_n z, ocN_n z]
      exact ⟨by rw [mf 823 f (by omega) (by omega) (by omega) (by omega) (by omega) (by omega)]; exact a1, a2, a3, by rw [mf 828 f (by omega) (by omega) (by omega) (by omega) (by omega) (by omega)]; exact a4, a5, by rw [mf 824 f (by omega) (by omega) (by omega) (by omega) (by omega) (by omega)]; exact b1, by rw [mf 825 f (by omega) (by omega) (by omega) (by omega) (by omega) (by omega)]; exact b2, by rw [mf 826 f (by omega) (by omega) (by omega) (by omega) (by omega) (by omega)]; exact b3, fun i w => by rw [mf 827 _ (by omega) (by omega) (by omega) (by omega) (by omega) (by omega)]; exact b4 i w⟩
  · obtain ⟨k, m, tt, q1, q2, q3, q4, q5, q6, q7⟩ := h7'' i u
    exact ⟨k, m, tt, q1, q2, q3, by rw [cf 23 i (by omega) (by omega) (by omega) (by omega)]; exact q4, by rw [mf 845 i (by omega) (by omega) (by omega) (by omega) (by omega) (by omega)]; exact q5, by rw [mf 846 i (by omega) (by omega) (by omega) (by omega) (by omega) (by omega)]; exact q6, by rw [mf 847 i (by omega) (by omega) (by omega) (by omega) (by omega) (by omega)]; exact q7⟩
  · obtain ⟨q1, q2, q3, q4⟩ := h9 m u
    refine ⟨?_, by rw [cf 31 m (by omega) (by omega) (by omega) (by omega)]; exact q2, by rw [mf 834 m (by omega) (by omega) (by omega) (by omega) (by omega) (by omega)]; exact q3, by rw [mf 835 m (by omega) (by omega) (by omega) (by omega) (by omega) (by omega)]; exact q4⟩
    rw [cnt_F (p := fun f => decide (ow f = m ∧ dn f = 0)) (fun i w => by rw [nst_n (by omega), nst_n (by omega)]), nst_s, nst_s]
    by_cases z : m = n
    · rw [z, decide_eq_true (show n = n ∧ 0 = 0 from ⟨rfl, rfl⟩), if_pos rfl]
      exact c30
    · rw [decide_eq_false (show ¬ (n = m ∧ 0 = 0) from fun w => z w.1.symm), if_neg (by decide), Nat.add_zero, cf 30 m (by omega) (by omega) (by omega) (by omega)]
      exact q1
  · obtain ⟨o, ho⟩ := hO k u
    exact ⟨o, OcR_f ho (fun y => cf _ y (by omega) (by omega) (by omega) (by omega))⟩
  · obtain ⟨q1, q2, q3⟩ := hFl t' ht'
    exact ⟨by rw [cf 22 t' (by omega) (by omega) (by omega) (by omega)]; exact q1, q2, fun k hk => by rw [mf 838 _ (by omega) (by omega) (by omega) (by omega) (by omega) (by omega)]; exact q3 k hk⟩
  · rw [cf 21 i (by omega) (by omega) (by omega) (by omega), mf 822 i (by omega) (by omega) (by omega) (by omega) (by omega) (by omega)]
    exact hbit i u
theorem st_send {fu N t F n ident row n3 fr ob : Nat} {q : Nat → Nat} {ow id : Nat → Nat} {oc : Nat → Nat → Nat} {dn ec tc fl : Nat → Nat} {asl : Bool} {A M : mwM} {Lc Lm : mwL} (hfu : 100 ≤ fu) (hB : BusR A M N t F ow id oc dn ec tc fl asl) (hn : n < N) (hid : ident < 2048) (hq : ∀ i, i < 8 → q i < 256 ∧ A row i = sI (q i) ∧ M 926 i = sI (q i)) (hn3 : 8 ≤ n3) (hn4 : n3 < 1000) (hrow : row ≠ 20 ∧ row ≠ 43 ∧ row ≠ 44 ∧ row ≠ 45 ∧ row ≠ 46) (hfr : fr < 100000) (hob : M 732 91 = sI ob) (hob2 : ob < 6001) : ∃ (r : Bool) (A' M' : mwM), DX0_send fu (sI n) (sI ident) row n3 A Lc = some (bI r, A', Lc) ∧ DX19_put fu (sI n) (sI ident) (sI fr) M Lm = some (bI r, M', Lm) ∧ (r = decide (F < 200)) ∧
    (r = false → A' = A ∧ M' = mset (mset M 821 0 3) 939 0 (M 939 0 + 1)) ∧
    (r = true → BusR A' M' N t (F + 1) (nst ow F n) (nst id F ident) (ocN oc F q) (nst dn F 0) ec tc fl false ∧ (∀ a y, ¬ (a = 20 ∧ (y = 9 ∨ y = 13)) → ¬ (43 ≤ a ∧ a ≤ 46) → a ≠ 30 → A' a y = A a y) ∧ (∀ a y, ¬ (821 ≤ a ∧ a ≤ 828) → ¬ (0 < fr ∧ ((a = 732 ∧ y = 91) ∨ a = 929 ∨ a = 930)) → M' a y = M a y) ∧ (0 < fr → M' 732 91 = sI (ob + 1) ∧ M' 929 ob = sI fr ∧ M' 930 ob = sI ident ∧ ∀ a y, a = 929 ∨ a = 930 → y ≠ ob → M' a y = M a y)) := by
  have hB' := hB
  obtain ⟨⟨h1, ⟨h2, h2', h2''⟩, ⟨h3, h3', h3''⟩, ⟨h4, h4', h4''⟩, h5, h6, _, _, h9, _⟩, hd, _⟩ := hB'
  unfold DX19_put DX12_thrown
  by_cases c : F < 200
  · obtain ⟨⟨r1, A1, L1⟩, e1, a1, a2, a3, a4, a5, a6, a7, a8, a9, a10⟩ := c_send0 (fu := fu) (ident := ident) (L := Lc) (q := q) (by omega) (show n < 7 by omega) h3 c (h9 n (by omega)).1 hn3 hn4 hrow (fun i u => (hq i u).2.1)
    dsimp only at a1 a2 a3 a4 a5 a6 a7 a8 a9 a10
    rw [a1, a2] at e1
    obtain ⟨⟨r2, M1, L2⟩, e2, b1, b2, b3, b4, b5, b6, b7, b8, b9, b10⟩ := m_send12 (fu := fu) (ident := ident) (L := Lm) (by omega) h2' h1.2.1 hn hid h4 c
    dsimp only at b1 b2 b3 b4 b5 b6 b7 b8 b9 b10
    rw [b1, b2] at e2
    rw [e2, mb3_s, mb3_s, b3, if_pos (show (0 : Int32) ≤ 0 by decide)]
    obtain ⟨st, sd, s1, s2, s3⟩ := NdR_s (hd n hn)
    -- eight octets
    have loop : ∃ M', fX19_put_h39 fu (sI n) (sI ident) (sI fr) fu (sI F, 0, M1, Lm) = some (1, M', Lm) ∧ (∀ i, i < 8 → M' 827 (64 * F + i) = sI (q i)) ∧ M' 821 50 = -1 ∧ (∀ a y, ¬ (a = 821 ∧ (y = 0 ∨ y = 50)) → ¬ (a = 827 ∧ 64 * F ≤ y ∧ y < 64 * F + 64) → ¬ (0 < fr ∧ ((a = 732 ∧ y = 91) ∨ a = 929 ∨ a = 930)) → M' a y = M1 a y) ∧ (0 < fr → M' 732 91 = sI (ob + 1) ∧ M' 929 ob = sI fr ∧ M' 930 ob = sI ident ∧ ∀ a y, a = 929 ∨ a = 930 → y ≠ ob → M' a y = M1 a y) := by
      have key : wq (fX19_put_h39 fu (sI n) (sI ident) (sI fr) fu (sI F, 0, M1, Lm)) (fun z => z.1 = 1 ∧ z.2.2 = Lm ∧ (∀ i, i < 8 → z.2.1 827 (64 * F + i) = sI (q i)) ∧ z.2.1 821 50 = -1 ∧ (∀ a y, ¬ (a = 821 ∧ (y = 0 ∨ y = 50)) → ¬ (a = 827 ∧ 64 * F ≤ y ∧ y < 64 * F + 64) → ¬ (0 < fr ∧ ((a = 732 ∧ y = 91) ∨ a = 929 ∨ a = 930)) → z.2.1 a y = M1 a y) ∧ (0 < fr → z.2.1 732 91 = sI (ob + 1) ∧ z.2.1 929 ob = sI fr ∧ z.2.1 930 ob = sI ident ∧ ∀ a y, a = 929 ∨ a = 930 → y ≠ ob → z.2.1 a y = M1 a y)) := by
        refine wq_for (body := fun r z => fX19_put_i39 fu (sI n) (sI ident) (sI fr) r z.1 z.2.1 z.2.2.1 z.2.2.2) (fun i (x : mwM) => (sI F, sI i, x, Lm)) (fun i x => (∀ j, j < i → x 827 (64 * F + j) = sI (q j)) ∧ (1 ≤ i → x 821 50 = -1) ∧ ∀ a y, ¬ (a = 821 ∧ (y = 0 ∨ y = 50)) → ¬ (a = 827 ∧ 64 * F ≤ y ∧ y < 64 * F + 64) → x a y = M1 a y) 8 ?_ ?_ 8 0 M1 fu (by omega) (by omega) ⟨fun j u => by omega, fun u => by omega, fun _ _ _ _ => rfl⟩
        · intro i x r hi ⟨x1, x2, x3⟩ ih
          show wq (fX19_put_i39 fu (sI n) (sI ident) (sI fr) r (sI F) (sI i) x Lm) _
          unfold fX19_put_i39
          have p926 : x 926 i = sI (q i) := by rw [x3 926 i (by omega) (by omega), b10 926 i (by omega) (by omega) (by omega)]; exact (hq i hi).2.2
          rw [if_neg (by rw [sI_lle (by decide) (by omega)]; omega), mck_s hi (by omega), sI_nn (by omega), p926, m_octet12 (st := st) (sd := sd) (n := n) (by rw [x3 821 4 (by omega) (by omega)]; exact b4) c hi (hq i hi).1 (by omega) (by rw [x3 823 F (by omega) (by omega)]; exact b5) (by rw [x3 825 F (by omega) (by omega)]; exact b7) (by rw [x3 826 F (by omega) (by omega)]; exact b8) (by rw [x3 828 F (by omega) (by omega)]; exact b9) (by rw [x3 831 n (by omega) (by omega), b10 831 n (by omega) (by omega) (by omega)]; exact s1) s2 (fun z => by rw [x3 833 n (by omega) (by omega), b10 833 n (by omega) (by omega) (by omega)]; exact s3 z), mb2_s]
          simp only [mlet]
          rw [sI_1]
          refine ih _ ⟨fun j u => ?_, fun _ => by rw [mset_n (by omega), mset_n (by omega), mset_s], fun a y u1 u2 => by rw [mset_n (by omega), mset_n (by omega), mset_n (by omega)]; exact x3 a y u1 u2⟩
          by_cases z : j = i
          · rw [z, mset_s]
          · rw [mset_n (by omega), mset_n (by omega), mset_n (by omega)]
            exact x1 j (by omega)
        · intro x r ⟨x1, x2, x3⟩
          show wq (fX19_put_i39 fu (sI n) (sI ident) (sI fr) r (sI F) (sI 8) x Lm) _
          unfold fX19_put_i39 fX19_put_b104
          have p91 : x 732 91 = sI ob := by rw [x3 732 91 (by omega) (by omega), b10 732 91 (by omega) (by omega) (by omega)]; exact hob
          rw [if_pos (by decide)]
          by_cases d : fr = 0
          · rw [if_pos (show sI fr ≤ 0 by rw [d]; decide)]
            exact wq_some ⟨rfl, rfl, x1, x2 (by omega), fun a y u1 u2 _ => x3 a y u1 u2, fun z => by omega⟩
          · rw [if_neg (show ¬ sI fr ≤ 0 by rw [sI_lel (by omega) (by decide)]; omega)]
            simp only [mlet]
            simp (disch := omega) only [p91, mck_s, sI_nn, mset_n, sI_1]
            refine wq_some ⟨rfl, rfl, fun i u => ?_, ?_, fun a y u1 u2 u3 => ?_, fun _ => ⟨?_, ?_, ?_, fun a y u1 u2 => ?_⟩⟩
            · dsimp only
              simp (disch := omega) only [mset_n]
              exact x1 i u
            · dsimp only
              simp (disch := omega) only [mset_n]
              exact x2 (by omega)
            · dsimp only
              simp (disch := omega) only [mset_n]
              exact x3 a y u1 u2
            · dsimp only
              rw [mset_s]
            · dsimp only
              simp (disch := omega) only [mset_n, mset_s]
            · dsimp only
              simp (disch := omega) only [mset_n, mset_s]
            · dsimp only
              simp (disch := omega) only [mset_n]
              exact x3 a y (by omega) (by omega)
      obtain ⟨⟨r3, M3, L3⟩, e3, k1, k2, k3, k4, k5, k6⟩ := key
      dsimp only at k1 k2 k3 k4 k5 k6
      rw [k1, k2] at e3
      exact ⟨M3, e3, k3, k4, k5, k6⟩
    obtain ⟨M3, e3, k3, k4, k5, k6⟩ := loop
    rw [e3]
    refine ⟨true, A1, M3, e1, rfl, (decide_eq_true c).symm, (fun z => by cases z), fun _ => ⟨?_, fun a y u1 u2 u3 => a10 a y (by omega) (by omega) (by omega) (by omega), fun a y u1 u2 => by rw [k5 a y (by omega) (by omega) u2, b10 a y (by omega) (by omega) (by omega)], fun z => ⟨(k6 z).1, (k6 z).2.1, (k6 z).2.2.1, fun a y u1 u2 => by rw [(k6 z).2.2.2 a y u1 u2, b10 a y (by omega) (by omega) (by omega)]⟩⟩⟩
    exact Bus_send hB c hn hid (fun i u => (hq i u).1) a3 a4 a5 a6 a7 a8 a9 a10 (by rw [k5 821 4 (by omega) (by omega) (by omega)]; exact b4) (by rw [k5 823 F (by omega) (by omega) (by omega)]; exact b5) (by rw [k5 824 F (by omega) (by omega) (by omega)]; exact b6) (by rw [k5 825 F (by omega) (by omega) (by omega)]; exact b7) (by rw [k5 826 F (by omega) (by omega) (by omega)]; exact b8) (by rw [k5 828 F (by omega) (by omega) (by omega)]; exact b9) k3 k4 (fun a y u1 u2 u3 u4 u5 u6 => by rw [k5 a y (by omega) u3 (by omega), b10 a y (by omega) u2 u3])
  · have f200 : F = 200 := by omega
    unfold DX0_send
    rw [h3, if_neg (by rw [sI_ltl (by omega) (by decide)]; exact c), m_send_b49 h2' h1.2.1 hn hid, h4, if_pos (show sI F = 200 by rw [f200]; rfl)]
    unfold fX12_send_b88
    simp only [mlet]
    rw [mset_s, if_neg (show ¬ (3 : Int32) ≤ 0 by decide), mb3_s, mb3_s, mset_s, if_neg (show ¬ (3 : Int32) ≤ 0 by decide), tz0, mset_n (show ¬ (939 = 821 ∧ 0 = 0) by omega)]
    exact ⟨false, A, _, rfl, rfl, (decide_eq_false c).symm, fun _ => ⟨rfl, rfl⟩, (fun z => by cases z)⟩
